/-! shallow functions, by program (wip/gen_fun.py) -/
def f203_l18 (L : Nat) (xs : Nat → Int32) (x0 : Unit) (x1 : Nat) (x2 : Nat) : Nat → Int32 → vm_M → Option (Int32 × vm_M)
  | 0 => fun _ _ => none
  | n + 1 => fun x3 M =>
    if ((Int32.ofNat L) - 6) < x3 then
      s_rb 1 M
    else
      (s_sc L xs x3).bind fun v16 =>
      if (v16 &&& 31) = 0 then
        (s_sc L xs (x3 + 1)).bind fun v19 =>
        (s_ob M x1 10).bind fun _ =>
        (f74 x1 v19 M).bind fun p21 =>
        (s_sc L xs (x3 + 1)).bind fun v23 =>
        (s_ob p21.2 x2 11).bind fun _ =>
        (f117 x2 v23 p21.2).bind fun p25 =>
        if p21.1 = p25.1 then
          f203_l18 L xs x0 x1 x2 n (x3 + 6) p25.2
        else
          s_rb 0 p25.2
      else if (v16 &&& 31) = 1 then
        (s_sc L xs (x3 + 1)).bind fun v33 =>
        (s_sc L xs (x3 + 2)).bind fun v35 =>
        (s_sc L xs (x3 + 3)).bind fun v37 =>
        (s_ob M x1 10).bind fun _ =>
        (f75 x1 v33 v35 v37 M).bind fun p39 =>
        (s_sc L xs (x3 + 1)).bind fun v41 =>
        (s_sc L xs (x3 + 2)).bind fun v43 =>
        (s_sc L xs (x3 + 3)).bind fun v45 =>
        (s_ob p39.2 x2 11).bind fun _ =>
        (f119 x2 v41 v43 v45 p39.2).bind fun p47 =>
        if p39.1 = p47.1 then
          f203_l18 L xs x0 x1 x2 n (x3 + 6) p47.2
        else
          s_rb 0 p47.2
      else if (v16 &&& 31) = 2 then
        (s_sc L xs (x3 + 1)).bind fun v55 =>
        (s_sc L xs (x3 + 2)).bind fun v57 =>
        (s_ob M x1 10).bind fun _ =>
        (f76 x1 v55 v57 M).bind fun p59 =>
        (s_sc L xs (x3 + 1)).bind fun v61 =>
        (s_sc L xs (x3 + 2)).bind fun v63 =>
        (s_ob p59.2 x2 11).bind fun _ =>
        (f120 x2 v61 v63 p59.2).bind fun p65 =>
        if p59.1 = p65.1 then
          f203_l18 L xs x0 x1 x2 n (x3 + 6) p65.2
        else
          s_rb 0 p65.2
      else if (v16 &&& 31) = 3 then
        (s_sc L xs (x3 + 1)).bind fun v73 =>
        (s_sc L xs (x3 + 2)).bind fun v75 =>
        (s_sc L xs (x3 + 3)).bind fun v77 =>
        (s_ob M x1 10).bind fun _ =>
        (f77 x1 v73 v75 v77 M).bind fun p79 =>
        (s_sc L xs (x3 + 1)).bind fun v81 =>
        (s_sc L xs (x3 + 2)).bind fun v83 =>
        (s_sc L xs (x3 + 3)).bind fun v85 =>
        (s_ob p79.2 x2 11).bind fun _ =>
        (f121 x2 v81 v83 v85 p79.2).bind fun p87 =>
        if p79.1 = p87.1 then
          f203_l18 L xs x0 x1 x2 n (x3 + 6) p87.2
        else
          s_rb 0 p87.2
      else if (v16 &&& 31) = 4 then
        (s_sc L xs (x3 + 1)).bind fun v95 =>
        (s_sc L xs (x3 + 2)).bind fun v97 =>
        (s_ob M x1 10).bind fun _ =>
        (f78 x1 v95 v97 M).bind fun p99 =>
        (s_sc L xs (x3 + 1)).bind fun v101 =>
        (s_sc L xs (x3 + 2)).bind fun v103 =>
        (s_ob p99.2 x2 11).bind fun _ =>
        (f124 x2 v101 v103 p99.2).bind fun p105 =>
        if p99.1 = p105.1 then
          f203_l18 L xs x0 x1 x2 n (x3 + 6) p105.2
        else
          s_rb 0 p105.2
      else if (v16 &&& 31) = 5 then
        (s_sc L xs (x3 + 1)).bind fun v113 =>
        (s_sc L xs (x3 + 2)).bind fun v115 =>
        (s_sc L xs (x3 + 3)).bind fun v117 =>
        (s_sc L xs (x3 + 4)).bind fun v119 =>
        (s_ob M x1 10).bind fun _ =>
        (f79 x1 v113 v115 v117 v119 M).bind fun p121 =>
        (s_sc L xs (x3 + 1)).bind fun v123 =>
        (s_sc L xs (x3 + 2)).bind fun v125 =>
        (s_sc L xs (x3 + 3)).bind fun v127 =>
        (s_sc L xs (x3 + 4)).bind fun v129 =>
        (s_ob p121.2 x2 11).bind fun _ =>
        (f125 x2 v123 v125 v127 v129 p121.2).bind fun p131 =>
        if p121.1 = p131.1 then
          f203_l18 L xs x0 x1 x2 n (x3 + 6) p131.2
        else
          s_rb 0 p131.2
      else if (v16 &&& 31) = 6 then
        (s_sc L xs (x3 + 1)).bind fun v139 =>
        (s_sc L xs (x3 + 2)).bind fun v141 =>
        (s_sc L xs (x3 + 3)).bind fun v143 =>
        (s_sc L xs (x3 + 4)).bind fun v145 =>
        (s_ob M x1 10).bind fun _ =>
        (f80 x1 v139 v141 v143 v145 M).bind fun p147 =>
        (s_sc L xs (x3 + 1)).bind fun v149 =>
        (s_sc L xs (x3 + 2)).bind fun v151 =>
        (s_sc L xs (x3 + 3)).bind fun v153 =>
        (s_sc L xs (x3 + 4)).bind fun v155 =>
        (s_ob p147.2 x2 11).bind fun _ =>
        (f127 x2 v149 v151 v153 v155 p147.2).bind fun p157 =>
        if p147.1 = p157.1 then
          f203_l18 L xs x0 x1 x2 n (x3 + 6) p157.2
        else
          s_rb 0 p157.2
      else if (v16 &&& 31) = 7 then
        (s_sc L xs (x3 + 1)).bind fun v165 =>
        (s_sc L xs (x3 + 2)).bind fun v167 =>
        (s_sc L xs (x3 + 3)).bind fun v169 =>
        (s_ob M x1 10).bind fun _ =>
        (f81 x1 v165 v167 v169 M).bind fun p171 =>
        (s_sc L xs (x3 + 1)).bind fun v173 =>
        (s_sc L xs (x3 + 2)).bind fun v175 =>
        (s_sc L xs (x3 + 3)).bind fun v177 =>
        (s_ob p171.2 x2 11).bind fun _ =>
        (f129 x2 v173 v175 v177 p171.2).bind fun p179 =>
        if p171.1 = p179.1 then
          f203_l18 L xs x0 x1 x2 n (x3 + 6) p179.2
        else
          s_rb 0 p179.2
      else if (v16 &&& 31) = 8 then
        (s_sc L xs (x3 + 1)).bind fun v187 =>
        (s_sc L xs (x3 + 2)).bind fun v189 =>
        (s_ob M x1 10).bind fun _ =>
        (f82 x1 v187 v189 M).bind fun p191 =>
        (s_sc L xs (x3 + 1)).bind fun v193 =>
        (s_sc L xs (x3 + 2)).bind fun v195 =>
        (s_ob p191.2 x2 11).bind fun _ =>
        (f130 x2 v193 v195 p191.2).bind fun p197 =>
        if p191.1 = p197.1 then
          f203_l18 L xs x0 x1 x2 n (x3 + 6) p197.2
        else
          s_rb 0 p197.2
      else if (v16 &&& 31) = 9 then
        (s_sc L xs (x3 + 1)).bind fun v205 =>
        (s_sc L xs (x3 + 2)).bind fun v207 =>
        (s_sc L xs (x3 + 3)).bind fun v209 =>
        (s_sc L xs (x3 + 4)).bind fun v211 =>
        (s_sc L xs (x3 + 5)).bind fun v213 =>
        (s_ob M x1 10).bind fun _ =>
        (f83 x1 v205 v207 v209 v211 v213 M).bind fun p215 =>
        (s_sc L xs (x3 + 1)).bind fun v217 =>
        (s_sc L xs (x3 + 2)).bind fun v219 =>
        (s_sc L xs (x3 + 3)).bind fun v221 =>
        (s_sc L xs (x3 + 4)).bind fun v223 =>
        (s_sc L xs (x3 + 5)).bind fun v225 =>
        (s_ob p215.2 x2 11).bind fun _ =>
        (f134 x2 v217 v219 v221 v223 v225 p215.2).bind fun p227 =>
        if p215.1 = p227.1 then
          f203_l18 L xs x0 x1 x2 n (x3 + 6) p227.2
        else
          s_rb 0 p227.2
      else if (v16 &&& 31) = 10 then
        (s_sc L xs (x3 + 1)).bind fun v235 =>
        (s_sc L xs (x3 + 2)).bind fun v237 =>
        (s_ob M x1 10).bind fun _ =>
        (f84 x1 v235 v237 M).bind fun p239 =>
        (s_sc L xs (x3 + 1)).bind fun v241 =>
        (s_sc L xs (x3 + 2)).bind fun v243 =>
        (s_ob p239.2 x2 11).bind fun _ =>
        (f157 x2 v241 v243 p239.2).bind fun p245 =>
        if p239.1 = p245.1 then
          f203_l18 L xs x0 x1 x2 n (x3 + 6) p245.2
        else
          s_rb 0 p245.2
      else if (v16 &&& 31) = 11 then
        (s_sc L xs (x3 + 1)).bind fun v253 =>
        (s_ob M x1 10).bind fun _ =>
        (f85 x1 v253 M).bind fun p255 =>
        (s_sc L xs (x3 + 1)).bind fun v257 =>
        (s_ob p255.2 x2 11).bind fun _ =>
        (f158 x2 v257 p255.2).bind fun p259 =>
        if p255.1 = p259.1 then
          f203_l18 L xs x0 x1 x2 n (x3 + 6) p259.2
        else
          s_rb 0 p259.2
      else if (v16 &&& 31) = 12 then
        (s_ob M x1 10).bind fun _ =>
        (f86 x1 M).bind fun p267 =>
        (s_ob p267.2 x2 11).bind fun _ =>
        (f159 x2 p267.2).bind fun p269 =>
        if p267.1 = p269.1 then
          f203_l18 L xs x0 x1 x2 n (x3 + 6) p269.2
        else
          s_rb 0 p269.2
      else if (v16 &&& 31) = 13 then
        (s_sc L xs (x3 + 1)).bind fun v277 =>
        (s_sc L xs (x3 + 2)).bind fun v279 =>
        (s_sc L xs (x3 + 3)).bind fun v281 =>
        (s_ob M x1 10).bind fun _ =>
        (f87 x1 v277 v279 v281 M).bind fun p283 =>
        (s_sc L xs (x3 + 1)).bind fun v285 =>
        (s_sc L xs (x3 + 2)).bind fun v287 =>
        (s_sc L xs (x3 + 3)).bind fun v289 =>
        (s_ob p283.2 x2 11).bind fun _ =>
        (f164 x2 v285 v287 v289 p283.2).bind fun p291 =>
        if p283.1 = p291.1 then
          f203_l18 L xs x0 x1 x2 n (x3 + 6) p291.2
        else
          s_rb 0 p291.2
      else if (v16 &&& 31) = 14 then
        (s_sc L xs (x3 + 1)).bind fun v299 =>
        (s_sc L xs (x3 + 2)).bind fun v301 =>
        (s_sc L xs (x3 + 3)).bind fun v303 =>
        (s_ob M x1 10).bind fun _ =>
        (f88 x1 v299 v301 v303 M).bind fun p305 =>
        (s_sc L xs (x3 + 1)).bind fun v307 =>
        (s_sc L xs (x3 + 2)).bind fun v309 =>
        (s_sc L xs (x3 + 3)).bind fun v311 =>
        (s_ob p305.2 x2 11).bind fun _ =>
        (f178 x2 v307 v309 v311 p305.2).bind fun p313 =>
        if (lg_cmp p305.1 p313.1) = 0 then
          f203_l18 L xs x0 x1 x2 n (x3 + 6) p313.2
        else
          s_rb 0 p313.2
      else if (v16 &&& 31) = 15 then
        (s_sc L xs (x3 + 1)).bind fun v321 =>
        (s_sc L xs (x3 + 2)).bind fun v323 =>
        (s_sc L xs (x3 + 3)).bind fun v325 =>
        (s_ob M x1 10).bind fun _ =>
        (f89 x1 v321 v323 v325 M).bind fun p327 =>
        (s_sc L xs (x3 + 1)).bind fun v329 =>
        (s_sc L xs (x3 + 2)).bind fun v331 =>
        (s_sc L xs (x3 + 3)).bind fun v333 =>
        (s_ob p327.2 x2 11).bind fun _ =>
        (f183 x2 v329 v331 v333 p327.2).bind fun p335 =>
        if (lg_cmp p327.1 p335.1) = 0 then
          f203_l18 L xs x0 x1 x2 n (x3 + 6) p335.2
        else
          s_rb 0 p335.2
      else if (v16 &&& 31) = 16 then
        (s_sc L xs (x3 + 1)).bind fun v343 =>
        (s_sc L xs (x3 + 2)).bind fun v345 =>
        (s_ob M x1 10).bind fun _ =>
        (f90 x1 v343 v345 M).bind fun p347 =>
        (s_sc L xs (x3 + 1)).bind fun v349 =>
        (s_sc L xs (x3 + 2)).bind fun v351 =>
        (s_ob p347.2 x2 11).bind fun _ =>
        (f182 x2 v349 v351 p347.2).bind fun p353 =>
        if (lg_cmp p347.1 p353.1) = 0 then
          f203_l18 L xs x0 x1 x2 n (x3 + 6) p353.2
        else
          s_rb 0 p353.2
      else if (v16 &&& 31) = 17 then
        (s_sc L xs (x3 + 1)).bind fun v361 =>
        (s_sc L xs (x3 + 2)).bind fun v363 =>
        (s_ob M x1 10).bind fun _ =>
        (f91 x1 v361 v363 M).bind fun p365 =>
        (s_sc L xs (x3 + 1)).bind fun v367 =>
        (s_sc L xs (x3 + 2)).bind fun v369 =>
        (s_ob p365.2 x2 11).bind fun _ =>
        (f179 x2 v367 v369 p365.2).bind fun p371 =>
        if (lg_cmp p365.1 p371.1) = 0 then
          f203_l18 L xs x0 x1 x2 n (x3 + 6) p371.2
        else
          s_rb 0 p371.2
      else if (v16 &&& 31) = 18 then
        (s_sc L xs (x3 + 1)).bind fun v379 =>
        (s_sc L xs (x3 + 2)).bind fun v381 =>
        (s_sc L xs (x3 + 3)).bind fun v383 =>
        (s_sc L xs (x3 + 4)).bind fun v385 =>
        (s_sc L xs (x3 + 5)).bind fun v387 =>
        (s_ob M x1 10).bind fun _ =>
        (f92 x1 v379 v381 v383 v385 v387 M).bind fun p389 =>
        (s_sc L xs (x3 + 1)).bind fun v391 =>
        (s_sc L xs (x3 + 2)).bind fun v393 =>
        (s_sc L xs (x3 + 3)).bind fun v395 =>
        (s_sc L xs (x3 + 4)).bind fun v397 =>
        (s_sc L xs (x3 + 5)).bind fun v399 =>
        (s_ob p389.2 x2 11).bind fun _ =>
        (f184 x2 v391 v393 v395 v397 v399 p389.2).bind fun p401 =>
        if p389.1 = p401.1 then
          f203_l18 L xs x0 x1 x2 n (x3 + 6) p401.2
        else
          s_rb 0 p401.2
      else if (v16 &&& 31) = 19 then
        (s_sc L xs (x3 + 1)).bind fun v409 =>
        (s_sc L xs (x3 + 2)).bind fun v411 =>
        (s_ob M x1 10).bind fun _ =>
        (f93 x1 v409 v411 M).bind fun p413 =>
        (s_sc L xs (x3 + 1)).bind fun v415 =>
        (s_sc L xs (x3 + 2)).bind fun v417 =>
        (s_ob p413.2 x2 11).bind fun _ =>
        (f185 x2 v415 v417 p413.2).bind fun p419 =>
        if p413.1 = p419.1 then
          f203_l18 L xs x0 x1 x2 n (x3 + 6) p419.2
        else
          s_rb 0 p419.2
      else if (v16 &&& 31) = 20 then
        (s_sc L xs (x3 + 1)).bind fun v427 =>
        (s_ob M x1 10).bind fun _ =>
        (f94 x1 v427 M).bind fun p429 =>
        (s_sc L xs (x3 + 1)).bind fun v431 =>
        (s_ob p429.2 x2 11).bind fun _ =>
        (f186 x2 v431 p429.2).bind fun p433 =>
        if p429.1 = p433.1 then
          f203_l18 L xs x0 x1 x2 n (x3 + 6) p433.2
        else
          s_rb 0 p433.2
      else if (v16 &&& 31) = 21 then
        (s_sc L xs (x3 + 1)).bind fun v441 =>
        (s_sc L xs (x3 + 2)).bind fun v443 =>
        (s_ob M x1 10).bind fun _ =>
        (f95 x1 v441 v443 M).bind fun p445 =>
        (s_sc L xs (x3 + 1)).bind fun v447 =>
        (s_sc L xs (x3 + 2)).bind fun v449 =>
        (s_ob p445.2 x2 11).bind fun _ =>
        (f188 x2 v447 v449 p445.2).bind fun p451 =>
        if (lg_cmp p445.1 p451.1) = 0 then
          f203_l18 L xs x0 x1 x2 n (x3 + 6) p451.2
        else
          s_rb 0 p451.2
      else if (v16 &&& 31) = 22 then
        (s_sc L xs (x3 + 1)).bind fun v459 =>
        (s_ob M x1 10).bind fun _ =>
        (f96 x1 v459 M).bind fun p461 =>
        (s_sc L xs (x3 + 1)).bind fun v463 =>
        (s_ob p461.2 x2 11).bind fun _ =>
        (f189 x2 v463 p461.2).bind fun p465 =>
        if p461.1 = p465.1 then
          f203_l18 L xs x0 x1 x2 n (x3 + 6) p465.2
        else
          s_rb 0 p465.2
      else if (v16 &&& 31) = 23 then
        (s_sc L xs (x3 + 1)).bind fun v473 =>
        (s_sc L xs (x3 + 2)).bind fun v475 =>
        (s_sc L xs (x3 + 3)).bind fun v477 =>
        (s_ob M x1 10).bind fun _ =>
        (f97 x1 v473 v475 v477 M).bind fun p479 =>
        (s_sc L xs (x3 + 1)).bind fun v481 =>
        (s_sc L xs (x3 + 2)).bind fun v483 =>
        (s_sc L xs (x3 + 3)).bind fun v485 =>
        (s_ob p479.2 x2 11).bind fun _ =>
        (f190 x2 v481 v483 v485 p479.2).bind fun p487 =>
        if (lg_cmp p479.1 p487.1) = 0 then
          f203_l18 L xs x0 x1 x2 n (x3 + 6) p487.2
        else
          s_rb 0 p487.2
      else if (v16 &&& 31) = 24 then
        (s_sc L xs (x3 + 1)).bind fun v495 =>
        (s_sc L xs (x3 + 2)).bind fun v497 =>
        (s_sc L xs (x3 + 3)).bind fun v499 =>
        (s_sc L xs (x3 + 4)).bind fun v501 =>
        (s_sc L xs (x3 + 5)).bind fun v503 =>
        (s_ob M x1 10).bind fun _ =>
        (f98 x1 v495 v497 v499 v501 v503 M).bind fun p505 =>
        (s_sc L xs (x3 + 1)).bind fun v507 =>
        (s_sc L xs (x3 + 2)).bind fun v509 =>
        (s_sc L xs (x3 + 3)).bind fun v511 =>
        (s_sc L xs (x3 + 4)).bind fun v513 =>
        (s_sc L xs (x3 + 5)).bind fun v515 =>
        (s_ob p505.2 x2 11).bind fun _ =>
        (f191 x2 v507 v509 v511 v513 v515 p505.2).bind fun p517 =>
        if (lg_cmp p505.1 p517.1) = 0 then
          f203_l18 L xs x0 x1 x2 n (x3 + 6) p517.2
        else
          s_rb 0 p517.2
      else if (v16 &&& 31) = 25 then
        (s_sc L xs (x3 + 1)).bind fun v525 =>
        (s_sc L xs (x3 + 2)).bind fun v527 =>
        (s_sc L xs (x3 + 3)).bind fun v529 =>
        (s_sc L xs (x3 + 4)).bind fun v531 =>
        (s_ob M x1 10).bind fun _ =>
        (f99 x1 v525 v527 v529 v531 M).bind fun p533 =>
        (s_sc L xs (x3 + 1)).bind fun v535 =>
        (s_sc L xs (x3 + 2)).bind fun v537 =>
        (s_sc L xs (x3 + 3)).bind fun v539 =>
        (s_sc L xs (x3 + 4)).bind fun v541 =>
        (s_ob p533.2 x2 11).bind fun _ =>
        (f192 x2 v535 v537 v539 v541 p533.2).bind fun p543 =>
        if p533.1 = p543.1 then
          f203_l18 L xs x0 x1 x2 n (x3 + 6) p543.2
        else
          s_rb 0 p543.2
      else if (v16 &&& 31) = 26 then
        (s_sc L xs (x3 + 1)).bind fun v551 =>
        (s_sc L xs (x3 + 2)).bind fun v553 =>
        (s_ob M x1 10).bind fun _ =>
        (f100 x1 v551 v553 M).bind fun p555 =>
        (s_sc L xs (x3 + 1)).bind fun v557 =>
        (s_sc L xs (x3 + 2)).bind fun v559 =>
        (s_ob p555.2 x2 11).bind fun _ =>
        (f195 x2 v557 v559 p555.2).bind fun p561 =>
        if p555.1 = p561.1 then
          f203_l18 L xs x0 x1 x2 n (x3 + 6) p561.2
        else
          s_rb 0 p561.2
      else if (v16 &&& 31) = 27 then
        (s_sc L xs (x3 + 1)).bind fun v569 =>
        (s_ob M x1 10).bind fun _ =>
        (f101 x1 v569 M).bind fun p571 =>
        (s_sc L xs (x3 + 1)).bind fun v573 =>
        (s_ob p571.2 x2 11).bind fun _ =>
        (f197 x2 v573 p571.2).bind fun p575 =>
        if p571.1 = p575.1 then
          f203_l18 L xs x0 x1 x2 n (x3 + 6) p575.2
        else
          s_rb 0 p575.2
      else 
        f203_l18 L xs x0 x1 x2 n (x3 + 6) M
set_option maxRecDepth 100000 in
set_option maxHeartbeats 2000000 in
theorem f203_l18_ok {L : Nat} {xs : Nat → Int32} {d : Nat} {x0 : Unit} {x1 : Nat} {x2 : Nat} {r : Int32 × vm_M} : ∀ (n : Nat) {x3 : Int32} {M : vm_M} {lv : vm_L}, (0, .ref vm_scr) ∈ lv → (1, .ref (x1)) ∈ lv → (2, .ref (x2)) ∈ lv → (3, .int (x3)) ∈ lv → f203_l18 L xs x0 x1 x2 n x3 M = some r → Ev L xs (vm_Cl (d + 129)) vp_203 12 4 false (some (.boolean)) (rI r) 18 lv [] M := by
  intro n
  induction n with
  | zero =>
    intro x3 M lv l0 l1 l2 l3 h
    cases h
  | succ n ih =>
    intro x3 M lv l0 l1 l2 l3 h
    dsimp only [f203_l18] at h
    refine ev_iload_n (mm 10 rfl) l3 ?_
    refine ev_aload_nX (mm 11 rfl) l0 ?_
    refine ev_xlen rfl (mm 12 rfl) ?_
    refine ev_bipush (mm 13 rfl) cB_6 ?_
    refine ev_isub (mm 14 rfl) ?_
    rcases ite_so h with ⟨c15, h⟩ | ⟨c15, h⟩
    · refine ev_ic_t 1247 (mm 15 rfl) rfl c15 ?_
      refine ev_iconst (mm 937 rfl) cI_1 ?_
      exact ev_zreturn (mm 938 rfl) h
    · refine ev_ic_f 1247 (mm 15 rfl) rfl c15 ?_
      refine ev_aload_nX (mm 16 rfl) l0 ?_
      refine ev_iload_n (mm 17 rfl) l3 ?_
      obtain ⟨v16, e17, h⟩ := bind_so h
      refine ev_xload rfl (mm 18 rfl) e17 ?_
      refine ev_bipush (mm 19 rfl) cB_31 ?_
      refine ev_iand (mm 20 rfl) ?_
      rcases ite_so h with ⟨c18, h⟩ | ⟨c18, h⟩
      · refine ev_tsw (off := 127) 160 0 (mm 21 rfl) c18 rfl rfl ?_
        refine ev_aload_nR (mm 22 rfl) l1 ?_
        refine ev_aload_nX (mm 23 rfl) l0 ?_
        refine ev_iload_n (mm 24 rfl) l3 ?_
        refine ev_iconst (mm 25 rfl) cI_1 ?_
        refine ev_iadd (mm 26 rfl) ?_
        obtain ⟨v19, e20, h⟩ := bind_so h
        refine ev_xload rfl (mm 27 rfl) e20 ?_
        obtain ⟨_, e31, h⟩ := bind_so h
        obtain ⟨p21, e22, h⟩ := bind_so h
        refine ev_callV_I [.int (v19)] (mm 28 rfl) rfl rfl (Nat.le_of_ble_eq_true rfl) (s_ob_of e31) (f74_ok e22 (d + 128)) ?_
        refine ev_aload_nR (mm 29 rfl) l2 ?_
        refine ev_aload_nX (mm 30 rfl) l0 ?_
        refine ev_iload_n (mm 31 rfl) l3 ?_
        refine ev_iconst (mm 32 rfl) cI_1 ?_
        refine ev_iadd (mm 33 rfl) ?_
        obtain ⟨v23, e24, h⟩ := bind_so h
        refine ev_xload rfl (mm 34 rfl) e24 ?_
        obtain ⟨_, e30, h⟩ := bind_so h
        obtain ⟨p25, e26, h⟩ := bind_so h
        refine ev_callV_I [.int (v23)] (mm 35 rfl) rfl rfl (Nat.le_of_ble_eq_true rfl) (s_ob_of e30) (f117_ok e26 (d + 128)) ?_
        rcases ite_so h with ⟨c27, h⟩ | ⟨c27, h⟩
        · refine ev_ic_t 1241 (mm 36 rfl) rfl c27 ?_
          refine evs_iinc (mm 935 rfl) cI_6 l3 (by decide) (fun lv28 l3 s29 => ?_)
          have l0 := s29 _ _ l0 rfl
          have l1 := s29 _ _ l1 rfl
          have l2 := s29 _ _ l2 rfl
          refine ev_goto 18 (mm 936 rfl) rfl ?_
          exact ih l0 l1 l2 l3 h
        · refine ev_ic_f 1241 (mm 36 rfl) rfl c27 ?_
          refine ev_iconst (mm 37 rfl) cI_0 ?_
          exact ev_zreturn (mm 38 rfl) h
      rcases ite_so h with ⟨c32, h⟩ | ⟨c32, h⟩
      · refine ev_tsw (off := 150) 183 1 (mm 21 rfl) c32 rfl rfl ?_
        refine ev_aload_nR (mm 39 rfl) l1 ?_
        refine ev_aload_nX (mm 40 rfl) l0 ?_
        refine ev_iload_n (mm 41 rfl) l3 ?_
        refine ev_iconst (mm 42 rfl) cI_1 ?_
        refine ev_iadd (mm 43 rfl) ?_
        obtain ⟨v33, e34, h⟩ := bind_so h
        refine ev_xload rfl (mm 44 rfl) e34 ?_
        refine ev_aload_nX (mm 45 rfl) l0 ?_
        refine ev_iload_n (mm 46 rfl) l3 ?_
        refine ev_iconst (mm 47 rfl) cI_2 ?_
        refine ev_iadd (mm 48 rfl) ?_
        obtain ⟨v35, e36, h⟩ := bind_so h
        refine ev_xload rfl (mm 49 rfl) e36 ?_
        refine ev_aload_nX (mm 50 rfl) l0 ?_
        refine ev_iload_n (mm 51 rfl) l3 ?_
        refine ev_iconst (mm 52 rfl) cI_3 ?_
        refine ev_iadd (mm 53 rfl) ?_
        obtain ⟨v37, e38, h⟩ := bind_so h
        refine ev_xload rfl (mm 54 rfl) e38 ?_
        obtain ⟨_, e53, h⟩ := bind_so h
        obtain ⟨p39, e40, h⟩ := bind_so h
        refine ev_callV_I [.int (v33), .int (v35), .int (v37)] (mm 55 rfl) rfl rfl (Nat.le_of_ble_eq_true rfl) (s_ob_of e53) (f75_ok e40 (d + 127)) ?_
        refine ev_aload_nR (mm 56 rfl) l2 ?_
        refine ev_aload_nX (mm 57 rfl) l0 ?_
        refine ev_iload_n (mm 58 rfl) l3 ?_
        refine ev_iconst (mm 59 rfl) cI_1 ?_
        refine ev_iadd (mm 60 rfl) ?_
        obtain ⟨v41, e42, h⟩ := bind_so h
        refine ev_xload rfl (mm 61 rfl) e42 ?_
        refine ev_aload_nX (mm 62 rfl) l0 ?_
        refine ev_iload_n (mm 63 rfl) l3 ?_
        refine ev_iconst (mm 64 rfl) cI_2 ?_
        refine ev_iadd (mm 65 rfl) ?_
        obtain ⟨v43, e44, h⟩ := bind_so h
        refine ev_xload rfl (mm 66 rfl) e44 ?_
        refine ev_aload_nX (mm 67 rfl) l0 ?_
        refine ev_iload_n (mm 68 rfl) l3 ?_
        refine ev_iconst (mm 69 rfl) cI_3 ?_
        refine ev_iadd (mm 70 rfl) ?_
        obtain ⟨v45, e46, h⟩ := bind_so h
        refine ev_xload rfl (mm 71 rfl) e46 ?_
        obtain ⟨_, e52, h⟩ := bind_so h
        obtain ⟨p47, e48, h⟩ := bind_so h
        refine ev_callV_I [.int (v41), .int (v43), .int (v45)] (mm 72 rfl) rfl rfl (Nat.le_of_ble_eq_true rfl) (s_ob_of e52) (f119_ok e48 (d + 127)) ?_
        rcases ite_so h with ⟨c49, h⟩ | ⟨c49, h⟩
        · refine ev_ic_t 1241 (mm 73 rfl) rfl c49 ?_
          refine evs_iinc (mm 935 rfl) cI_6 l3 (by decide) (fun lv50 l3 s51 => ?_)
          have l0 := s51 _ _ l0 rfl
          have l1 := s51 _ _ l1 rfl
          have l2 := s51 _ _ l2 rfl
          refine ev_goto 18 (mm 936 rfl) rfl ?_
          exact ih l0 l1 l2 l3 h
        · refine ev_ic_f 1241 (mm 73 rfl) rfl c49 ?_
          refine ev_iconst (mm 74 rfl) cI_0 ?_
          exact ev_zreturn (mm 75 rfl) h
      rcases ite_so h with ⟨c54, h⟩ | ⟨c54, h⟩
      · refine ev_tsw (off := 193) 226 2 (mm 21 rfl) c54 rfl rfl ?_
        refine ev_aload_nR (mm 76 rfl) l1 ?_
        refine ev_aload_nX (mm 77 rfl) l0 ?_
        refine ev_iload_n (mm 78 rfl) l3 ?_
        refine ev_iconst (mm 79 rfl) cI_1 ?_
        refine ev_iadd (mm 80 rfl) ?_
        obtain ⟨v55, e56, h⟩ := bind_so h
        refine ev_xload rfl (mm 81 rfl) e56 ?_
        refine ev_aload_nX (mm 82 rfl) l0 ?_
        refine ev_iload_n (mm 83 rfl) l3 ?_
        refine ev_iconst (mm 84 rfl) cI_2 ?_
        refine ev_iadd (mm 85 rfl) ?_
        obtain ⟨v57, e58, h⟩ := bind_so h
        refine ev_xload rfl (mm 86 rfl) e58 ?_
        obtain ⟨_, e71, h⟩ := bind_so h
        obtain ⟨p59, e60, h⟩ := bind_so h
        refine ev_callV_I [.int (v55), .int (v57)] (mm 87 rfl) rfl rfl (Nat.le_of_ble_eq_true rfl) (s_ob_of e71) (f76_ok e60 (d + 127)) ?_
        refine ev_aload_nR (mm 88 rfl) l2 ?_
        refine ev_aload_nX (mm 89 rfl) l0 ?_
        refine ev_iload_n (mm 90 rfl) l3 ?_
        refine ev_iconst (mm 91 rfl) cI_1 ?_
        refine ev_iadd (mm 92 rfl) ?_
        obtain ⟨v61, e62, h⟩ := bind_so h
        refine ev_xload rfl (mm 93 rfl) e62 ?_
        refine ev_aload_nX (mm 94 rfl) l0 ?_
        refine ev_iload_n (mm 95 rfl) l3 ?_
        refine ev_iconst (mm 96 rfl) cI_2 ?_
        refine ev_iadd (mm 97 rfl) ?_
        obtain ⟨v63, e64, h⟩ := bind_so h
        refine ev_xload rfl (mm 98 rfl) e64 ?_
        obtain ⟨_, e70, h⟩ := bind_so h
        obtain ⟨p65, e66, h⟩ := bind_so h
        refine ev_callV_I [.int (v61), .int (v63)] (mm 99 rfl) rfl rfl (Nat.le_of_ble_eq_true rfl) (s_ob_of e70) (f120_ok e66 (d + 127)) ?_
        rcases ite_so h with ⟨c67, h⟩ | ⟨c67, h⟩
        · refine ev_ic_t 1241 (mm 100 rfl) rfl c67 ?_
          refine evs_iinc (mm 935 rfl) cI_6 l3 (by decide) (fun lv68 l3 s69 => ?_)
          have l0 := s69 _ _ l0 rfl
          have l1 := s69 _ _ l1 rfl
          have l2 := s69 _ _ l2 rfl
          refine ev_goto 18 (mm 936 rfl) rfl ?_
          exact ih l0 l1 l2 l3 h
        · refine ev_ic_f 1241 (mm 100 rfl) rfl c67 ?_
          refine ev_iconst (mm 101 rfl) cI_0 ?_
          exact ev_zreturn (mm 102 rfl) h
      rcases ite_so h with ⟨c72, h⟩ | ⟨c72, h⟩
      · refine ev_tsw (off := 226) 259 3 (mm 21 rfl) c72 rfl rfl ?_
        refine ev_aload_nR (mm 103 rfl) l1 ?_
        refine ev_aload_nX (mm 104 rfl) l0 ?_
        refine ev_iload_n (mm 105 rfl) l3 ?_
        refine ev_iconst (mm 106 rfl) cI_1 ?_
        refine ev_iadd (mm 107 rfl) ?_
        obtain ⟨v73, e74, h⟩ := bind_so h
        refine ev_xload rfl (mm 108 rfl) e74 ?_
        refine ev_aload_nX (mm 109 rfl) l0 ?_
        refine ev_iload_n (mm 110 rfl) l3 ?_
        refine ev_iconst (mm 111 rfl) cI_2 ?_
        refine ev_iadd (mm 112 rfl) ?_
        obtain ⟨v75, e76, h⟩ := bind_so h
        refine ev_xload rfl (mm 113 rfl) e76 ?_
        refine ev_aload_nX (mm 114 rfl) l0 ?_
        refine ev_iload_n (mm 115 rfl) l3 ?_
        refine ev_iconst (mm 116 rfl) cI_3 ?_
        refine ev_iadd (mm 117 rfl) ?_
        obtain ⟨v77, e78, h⟩ := bind_so h
        refine ev_xload rfl (mm 118 rfl) e78 ?_
        obtain ⟨_, e93, h⟩ := bind_so h
        obtain ⟨p79, e80, h⟩ := bind_so h
        refine ev_callV_I [.int (v73), .int (v75), .int (v77)] (mm 119 rfl) rfl rfl (Nat.le_of_ble_eq_true rfl) (s_ob_of e93) (f77_ok e80 (d + 127)) ?_
        refine ev_aload_nR (mm 120 rfl) l2 ?_
        refine ev_aload_nX (mm 121 rfl) l0 ?_
        refine ev_iload_n (mm 122 rfl) l3 ?_
        refine ev_iconst (mm 123 rfl) cI_1 ?_
        refine ev_iadd (mm 124 rfl) ?_
        obtain ⟨v81, e82, h⟩ := bind_so h
        refine ev_xload rfl (mm 125 rfl) e82 ?_
        refine ev_aload_nX (mm 126 rfl) l0 ?_
        refine ev_iload_n (mm 127 rfl) l3 ?_
        refine ev_iconst (mm 128 rfl) cI_2 ?_
        refine ev_iadd (mm 129 rfl) ?_
        obtain ⟨v83, e84, h⟩ := bind_so h
        refine ev_xload rfl (mm 130 rfl) e84 ?_
        refine ev_aload_nX (mm 131 rfl) l0 ?_
        refine ev_iload_n (mm 132 rfl) l3 ?_
        refine ev_iconst (mm 133 rfl) cI_3 ?_
        refine ev_iadd (mm 134 rfl) ?_
        obtain ⟨v85, e86, h⟩ := bind_so h
        refine ev_xload rfl (mm 135 rfl) e86 ?_
        obtain ⟨_, e92, h⟩ := bind_so h
        obtain ⟨p87, e88, h⟩ := bind_so h
        refine ev_callV_I [.int (v81), .int (v83), .int (v85)] (mm 136 rfl) rfl rfl (Nat.le_of_ble_eq_true rfl) (s_ob_of e92) (f121_ok e88 (d + 127)) ?_
        rcases ite_so h with ⟨c89, h⟩ | ⟨c89, h⟩
        · refine ev_ic_t 1241 (mm 137 rfl) rfl c89 ?_
          refine evs_iinc (mm 935 rfl) cI_6 l3 (by decide) (fun lv90 l3 s91 => ?_)
          have l0 := s91 _ _ l0 rfl
          have l1 := s91 _ _ l1 rfl
          have l2 := s91 _ _ l2 rfl
          refine ev_goto 18 (mm 936 rfl) rfl ?_
          exact ih l0 l1 l2 l3 h
        · refine ev_ic_f 1241 (mm 137 rfl) rfl c89 ?_
          refine ev_iconst (mm 138 rfl) cI_0 ?_
          exact ev_zreturn (mm 139 rfl) h
      rcases ite_so h with ⟨c94, h⟩ | ⟨c94, h⟩
      · refine ev_tsw (off := 269) 302 4 (mm 21 rfl) c94 rfl rfl ?_
        refine ev_aload_nR (mm 140 rfl) l1 ?_
        refine ev_aload_nX (mm 141 rfl) l0 ?_
        refine ev_iload_n (mm 142 rfl) l3 ?_
        refine ev_iconst (mm 143 rfl) cI_1 ?_
        refine ev_iadd (mm 144 rfl) ?_
        obtain ⟨v95, e96, h⟩ := bind_so h
        refine ev_xload rfl (mm 145 rfl) e96 ?_
        refine ev_aload_nX (mm 146 rfl) l0 ?_
        refine ev_iload_n (mm 147 rfl) l3 ?_
        refine ev_iconst (mm 148 rfl) cI_2 ?_
        refine ev_iadd (mm 149 rfl) ?_
        obtain ⟨v97, e98, h⟩ := bind_so h
        refine ev_xload rfl (mm 150 rfl) e98 ?_
        obtain ⟨_, e111, h⟩ := bind_so h
        obtain ⟨p99, e100, h⟩ := bind_so h
        refine ev_callV_I [.int (v95), .int (v97)] (mm 151 rfl) rfl rfl (Nat.le_of_ble_eq_true rfl) (s_ob_of e111) (f78_ok e100 (d + 126)) ?_
        refine ev_aload_nR (mm 152 rfl) l2 ?_
        refine ev_aload_nX (mm 153 rfl) l0 ?_
        refine ev_iload_n (mm 154 rfl) l3 ?_
        refine ev_iconst (mm 155 rfl) cI_1 ?_
        refine ev_iadd (mm 156 rfl) ?_
        obtain ⟨v101, e102, h⟩ := bind_so h
        refine ev_xload rfl (mm 157 rfl) e102 ?_
        refine ev_aload_nX (mm 158 rfl) l0 ?_
        refine ev_iload_n (mm 159 rfl) l3 ?_
        refine ev_iconst (mm 160 rfl) cI_2 ?_
        refine ev_iadd (mm 161 rfl) ?_
        obtain ⟨v103, e104, h⟩ := bind_so h
        refine ev_xload rfl (mm 162 rfl) e104 ?_
        obtain ⟨_, e110, h⟩ := bind_so h
        obtain ⟨p105, e106, h⟩ := bind_so h
        refine ev_callV_I [.int (v101), .int (v103)] (mm 163 rfl) rfl rfl (Nat.le_of_ble_eq_true rfl) (s_ob_of e110) (f124_ok e106 (d + 126)) ?_
        rcases ite_so h with ⟨c107, h⟩ | ⟨c107, h⟩
        · refine ev_ic_t 1241 (mm 164 rfl) rfl c107 ?_
          refine evs_iinc (mm 935 rfl) cI_6 l3 (by decide) (fun lv108 l3 s109 => ?_)
          have l0 := s109 _ _ l0 rfl
          have l1 := s109 _ _ l1 rfl
          have l2 := s109 _ _ l2 rfl
          refine ev_goto 18 (mm 936 rfl) rfl ?_
          exact ih l0 l1 l2 l3 h
        · refine ev_ic_f 1241 (mm 164 rfl) rfl c107 ?_
          refine ev_iconst (mm 165 rfl) cI_0 ?_
          exact ev_zreturn (mm 166 rfl) h
      rcases ite_so h with ⟨c112, h⟩ | ⟨c112, h⟩
      · refine ev_tsw (off := 302) 335 5 (mm 21 rfl) c112 rfl rfl ?_
        refine ev_aload_nR (mm 167 rfl) l1 ?_
        refine ev_aload_nX (mm 168 rfl) l0 ?_
        refine ev_iload_n (mm 169 rfl) l3 ?_
        refine ev_iconst (mm 170 rfl) cI_1 ?_
        refine ev_iadd (mm 171 rfl) ?_
        obtain ⟨v113, e114, h⟩ := bind_so h
        refine ev_xload rfl (mm 172 rfl) e114 ?_
        refine ev_aload_nX (mm 173 rfl) l0 ?_
        refine ev_iload_n (mm 174 rfl) l3 ?_
        refine ev_iconst (mm 175 rfl) cI_2 ?_
        refine ev_iadd (mm 176 rfl) ?_
        obtain ⟨v115, e116, h⟩ := bind_so h
        refine ev_xload rfl (mm 177 rfl) e116 ?_
        refine ev_aload_nX (mm 178 rfl) l0 ?_
        refine ev_iload_n (mm 179 rfl) l3 ?_
        refine ev_iconst (mm 180 rfl) cI_3 ?_
        refine ev_iadd (mm 181 rfl) ?_
        obtain ⟨v117, e118, h⟩ := bind_so h
        refine ev_xload rfl (mm 182 rfl) e118 ?_
        refine ev_aload_nX (mm 183 rfl) l0 ?_
        refine ev_iload_n (mm 184 rfl) l3 ?_
        refine ev_iconst (mm 185 rfl) cI_4 ?_
        refine ev_iadd (mm 186 rfl) ?_
        obtain ⟨v119, e120, h⟩ := bind_so h
        refine ev_xload rfl (mm 187 rfl) e120 ?_
        obtain ⟨_, e137, h⟩ := bind_so h
        obtain ⟨p121, e122, h⟩ := bind_so h
        refine ev_callV_I [.int (v113), .int (v115), .int (v117), .int (v119)] (mm 188 rfl) rfl rfl (Nat.le_of_ble_eq_true rfl) (s_ob_of e137) (f79_ok e122 (d + 126)) ?_
        refine ev_aload_nR (mm 189 rfl) l2 ?_
        refine ev_aload_nX (mm 190 rfl) l0 ?_
        refine ev_iload_n (mm 191 rfl) l3 ?_
        refine ev_iconst (mm 192 rfl) cI_1 ?_
        refine ev_iadd (mm 193 rfl) ?_
        obtain ⟨v123, e124, h⟩ := bind_so h
        refine ev_xload rfl (mm 194 rfl) e124 ?_
        refine ev_aload_nX (mm 195 rfl) l0 ?_
        refine ev_iload_n (mm 196 rfl) l3 ?_
        refine ev_iconst (mm 197 rfl) cI_2 ?_
        refine ev_iadd (mm 198 rfl) ?_
        obtain ⟨v125, e126, h⟩ := bind_so h
        refine ev_xload rfl (mm 199 rfl) e126 ?_
        refine ev_aload_nX (mm 200 rfl) l0 ?_
        refine ev_iload_n (mm 201 rfl) l3 ?_
        refine ev_iconst (mm 202 rfl) cI_3 ?_
        refine ev_iadd (mm 203 rfl) ?_
        obtain ⟨v127, e128, h⟩ := bind_so h
        refine ev_xload rfl (mm 204 rfl) e128 ?_
        refine ev_aload_nX (mm 205 rfl) l0 ?_
        refine ev_iload_n (mm 206 rfl) l3 ?_
        refine ev_iconst (mm 207 rfl) cI_4 ?_
        refine ev_iadd (mm 208 rfl) ?_
        obtain ⟨v129, e130, h⟩ := bind_so h
        refine ev_xload rfl (mm 209 rfl) e130 ?_
        obtain ⟨_, e136, h⟩ := bind_so h
        obtain ⟨p131, e132, h⟩ := bind_so h
        refine ev_callV_I [.int (v123), .int (v125), .int (v127), .int (v129)] (mm 210 rfl) rfl rfl (Nat.le_of_ble_eq_true rfl) (s_ob_of e136) (f125_ok e132 (d + 126)) ?_
        rcases ite_so h with ⟨c133, h⟩ | ⟨c133, h⟩
        · refine ev_ic_t 1241 (mm 211 rfl) rfl c133 ?_
          refine evs_iinc (mm 935 rfl) cI_6 l3 (by decide) (fun lv134 l3 s135 => ?_)
          have l0 := s135 _ _ l0 rfl
          have l1 := s135 _ _ l1 rfl
          have l2 := s135 _ _ l2 rfl
          refine ev_goto 18 (mm 936 rfl) rfl ?_
          exact ih l0 l1 l2 l3 h
        · refine ev_ic_f 1241 (mm 211 rfl) rfl c133 ?_
          refine ev_iconst (mm 212 rfl) cI_0 ?_
          exact ev_zreturn (mm 213 rfl) h
      rcases ite_so h with ⟨c138, h⟩ | ⟨c138, h⟩
      · refine ev_tsw (off := 355) 388 6 (mm 21 rfl) c138 rfl rfl ?_
        refine ev_aload_nR (mm 214 rfl) l1 ?_
        refine ev_aload_nX (mm 215 rfl) l0 ?_
        refine ev_iload_n (mm 216 rfl) l3 ?_
        refine ev_iconst (mm 217 rfl) cI_1 ?_
        refine ev_iadd (mm 218 rfl) ?_
        obtain ⟨v139, e140, h⟩ := bind_so h
        refine ev_xload rfl (mm 219 rfl) e140 ?_
        refine ev_aload_nX (mm 220 rfl) l0 ?_
        refine ev_iload_n (mm 221 rfl) l3 ?_
        refine ev_iconst (mm 222 rfl) cI_2 ?_
        refine ev_iadd (mm 223 rfl) ?_
        obtain ⟨v141, e142, h⟩ := bind_so h
        refine ev_xload rfl (mm 224 rfl) e142 ?_
        refine ev_aload_nX (mm 225 rfl) l0 ?_
        refine ev_iload_n (mm 226 rfl) l3 ?_
        refine ev_iconst (mm 227 rfl) cI_3 ?_
        refine ev_iadd (mm 228 rfl) ?_
        obtain ⟨v143, e144, h⟩ := bind_so h
        refine ev_xload rfl (mm 229 rfl) e144 ?_
        refine ev_aload_nX (mm 230 rfl) l0 ?_
        refine ev_iload_n (mm 231 rfl) l3 ?_
        refine ev_iconst (mm 232 rfl) cI_4 ?_
        refine ev_iadd (mm 233 rfl) ?_
        obtain ⟨v145, e146, h⟩ := bind_so h
        refine ev_xload rfl (mm 234 rfl) e146 ?_
        obtain ⟨_, e163, h⟩ := bind_so h
        obtain ⟨p147, e148, h⟩ := bind_so h
        refine ev_callV_I [.int (v139), .int (v141), .int (v143), .int (v145)] (mm 235 rfl) rfl rfl (Nat.le_of_ble_eq_true rfl) (s_ob_of e163) (f80_ok e148 (d + 126)) ?_
        refine ev_aload_nR (mm 236 rfl) l2 ?_
        refine ev_aload_nX (mm 237 rfl) l0 ?_
        refine ev_iload_n (mm 238 rfl) l3 ?_
        refine ev_iconst (mm 239 rfl) cI_1 ?_
        refine ev_iadd (mm 240 rfl) ?_
        obtain ⟨v149, e150, h⟩ := bind_so h
        refine ev_xload rfl (mm 241 rfl) e150 ?_
        refine ev_aload_nX (mm 242 rfl) l0 ?_
        refine ev_iload_n (mm 243 rfl) l3 ?_
        refine ev_iconst (mm 244 rfl) cI_2 ?_
        refine ev_iadd (mm 245 rfl) ?_
        obtain ⟨v151, e152, h⟩ := bind_so h
        refine ev_xload rfl (mm 246 rfl) e152 ?_
        refine ev_aload_nX (mm 247 rfl) l0 ?_
        refine ev_iload_n (mm 248 rfl) l3 ?_
        refine ev_iconst (mm 249 rfl) cI_3 ?_
        refine ev_iadd (mm 250 rfl) ?_
        obtain ⟨v153, e154, h⟩ := bind_so h
        refine ev_xload rfl (mm 251 rfl) e154 ?_
        refine ev_aload_nX (mm 252 rfl) l0 ?_
        refine ev_iload_n (mm 253 rfl) l3 ?_
        refine ev_iconst (mm 254 rfl) cI_4 ?_
        refine ev_iadd (mm 255 rfl) ?_
        obtain ⟨v155, e156, h⟩ := bind_so h
        refine ev_xload rfl (mm 256 rfl) e156 ?_
        obtain ⟨_, e162, h⟩ := bind_so h
        obtain ⟨p157, e158, h⟩ := bind_so h
        refine ev_callV_I [.int (v149), .int (v151), .int (v153), .int (v155)] (mm 257 rfl) rfl rfl (Nat.le_of_ble_eq_true rfl) (s_ob_of e162) (f127_ok e158 (d + 126)) ?_
        rcases ite_so h with ⟨c159, h⟩ | ⟨c159, h⟩
        · refine ev_ic_t 1241 (mm 258 rfl) rfl c159 ?_
          refine evs_iinc (mm 935 rfl) cI_6 l3 (by decide) (fun lv160 l3 s161 => ?_)
          have l0 := s161 _ _ l0 rfl
          have l1 := s161 _ _ l1 rfl
          have l2 := s161 _ _ l2 rfl
          refine ev_goto 18 (mm 936 rfl) rfl ?_
          exact ih l0 l1 l2 l3 h
        · refine ev_ic_f 1241 (mm 258 rfl) rfl c159 ?_
          refine ev_iconst (mm 259 rfl) cI_0 ?_
          exact ev_zreturn (mm 260 rfl) h
      rcases ite_so h with ⟨c164, h⟩ | ⟨c164, h⟩
      · refine ev_tsw (off := 408) 441 7 (mm 21 rfl) c164 rfl rfl ?_
        refine ev_aload_nR (mm 261 rfl) l1 ?_
        refine ev_aload_nX (mm 262 rfl) l0 ?_
        refine ev_iload_n (mm 263 rfl) l3 ?_
        refine ev_iconst (mm 264 rfl) cI_1 ?_
        refine ev_iadd (mm 265 rfl) ?_
        obtain ⟨v165, e166, h⟩ := bind_so h
        refine ev_xload rfl (mm 266 rfl) e166 ?_
        refine ev_aload_nX (mm 267 rfl) l0 ?_
        refine ev_iload_n (mm 268 rfl) l3 ?_
        refine ev_iconst (mm 269 rfl) cI_2 ?_
        refine ev_iadd (mm 270 rfl) ?_
        obtain ⟨v167, e168, h⟩ := bind_so h
        refine ev_xload rfl (mm 271 rfl) e168 ?_
        refine ev_aload_nX (mm 272 rfl) l0 ?_
        refine ev_iload_n (mm 273 rfl) l3 ?_
        refine ev_iconst (mm 274 rfl) cI_3 ?_
        refine ev_iadd (mm 275 rfl) ?_
        obtain ⟨v169, e170, h⟩ := bind_so h
        refine ev_xload rfl (mm 276 rfl) e170 ?_
        obtain ⟨_, e185, h⟩ := bind_so h
        obtain ⟨p171, e172, h⟩ := bind_so h
        refine ev_callV_I [.int (v165), .int (v167), .int (v169)] (mm 277 rfl) rfl rfl (Nat.le_of_ble_eq_true rfl) (s_ob_of e185) (f81_ok e172 (d + 125)) ?_
        refine ev_aload_nR (mm 278 rfl) l2 ?_
        refine ev_aload_nX (mm 279 rfl) l0 ?_
        refine ev_iload_n (mm 280 rfl) l3 ?_
        refine ev_iconst (mm 281 rfl) cI_1 ?_
        refine ev_iadd (mm 282 rfl) ?_
        obtain ⟨v173, e174, h⟩ := bind_so h
        refine ev_xload rfl (mm 283 rfl) e174 ?_
        refine ev_aload_nX (mm 284 rfl) l0 ?_
        refine ev_iload_n (mm 285 rfl) l3 ?_
        refine ev_iconst (mm 286 rfl) cI_2 ?_
        refine ev_iadd (mm 287 rfl) ?_
        obtain ⟨v175, e176, h⟩ := bind_so h
        refine ev_xload rfl (mm 288 rfl) e176 ?_
        refine ev_aload_nX (mm 289 rfl) l0 ?_
        refine ev_iload_n (mm 290 rfl) l3 ?_
        refine ev_iconst (mm 291 rfl) cI_3 ?_
        refine ev_iadd (mm 292 rfl) ?_
        obtain ⟨v177, e178, h⟩ := bind_so h
        refine ev_xload rfl (mm 293 rfl) e178 ?_
        obtain ⟨_, e184, h⟩ := bind_so h
        obtain ⟨p179, e180, h⟩ := bind_so h
        refine ev_callV_I [.int (v173), .int (v175), .int (v177)] (mm 294 rfl) rfl rfl (Nat.le_of_ble_eq_true rfl) (s_ob_of e184) (f129_ok e180 (d + 125)) ?_
        rcases ite_so h with ⟨c181, h⟩ | ⟨c181, h⟩
        · refine ev_ic_t 1241 (mm 295 rfl) rfl c181 ?_
          refine evs_iinc (mm 935 rfl) cI_6 l3 (by decide) (fun lv182 l3 s183 => ?_)
          have l0 := s183 _ _ l0 rfl
          have l1 := s183 _ _ l1 rfl
          have l2 := s183 _ _ l2 rfl
          refine ev_goto 18 (mm 936 rfl) rfl ?_
          exact ih l0 l1 l2 l3 h
        · refine ev_ic_f 1241 (mm 295 rfl) rfl c181 ?_
          refine ev_iconst (mm 296 rfl) cI_0 ?_
          exact ev_zreturn (mm 297 rfl) h
      rcases ite_so h with ⟨c186, h⟩ | ⟨c186, h⟩
      · refine ev_tsw (off := 451) 484 8 (mm 21 rfl) c186 rfl rfl ?_
        refine ev_aload_nR (mm 298 rfl) l1 ?_
        refine ev_aload_nX (mm 299 rfl) l0 ?_
        refine ev_iload_n (mm 300 rfl) l3 ?_
        refine ev_iconst (mm 301 rfl) cI_1 ?_
        refine ev_iadd (mm 302 rfl) ?_
        obtain ⟨v187, e188, h⟩ := bind_so h
        refine ev_xload rfl (mm 303 rfl) e188 ?_
        refine ev_aload_nX (mm 304 rfl) l0 ?_
        refine ev_iload_n (mm 305 rfl) l3 ?_
        refine ev_iconst (mm 306 rfl) cI_2 ?_
        refine ev_iadd (mm 307 rfl) ?_
        obtain ⟨v189, e190, h⟩ := bind_so h
        refine ev_xload rfl (mm 308 rfl) e190 ?_
        obtain ⟨_, e203, h⟩ := bind_so h
        obtain ⟨p191, e192, h⟩ := bind_so h
        refine ev_callV_I [.int (v187), .int (v189)] (mm 309 rfl) rfl rfl (Nat.le_of_ble_eq_true rfl) (s_ob_of e203) (f82_ok e192 (d + 126)) ?_
        refine ev_aload_nR (mm 310 rfl) l2 ?_
        refine ev_aload_nX (mm 311 rfl) l0 ?_
        refine ev_iload_n (mm 312 rfl) l3 ?_
        refine ev_iconst (mm 313 rfl) cI_1 ?_
        refine ev_iadd (mm 314 rfl) ?_
        obtain ⟨v193, e194, h⟩ := bind_so h
        refine ev_xload rfl (mm 315 rfl) e194 ?_
        refine ev_aload_nX (mm 316 rfl) l0 ?_
        refine ev_iload_n (mm 317 rfl) l3 ?_
        refine ev_iconst (mm 318 rfl) cI_2 ?_
        refine ev_iadd (mm 319 rfl) ?_
        obtain ⟨v195, e196, h⟩ := bind_so h
        refine ev_xload rfl (mm 320 rfl) e196 ?_
        obtain ⟨_, e202, h⟩ := bind_so h
        obtain ⟨p197, e198, h⟩ := bind_so h
        refine ev_callV_I [.int (v193), .int (v195)] (mm 321 rfl) rfl rfl (Nat.le_of_ble_eq_true rfl) (s_ob_of e202) (f130_ok e198 (d + 126)) ?_
        rcases ite_so h with ⟨c199, h⟩ | ⟨c199, h⟩
        · refine ev_ic_t 1241 (mm 322 rfl) rfl c199 ?_
          refine evs_iinc (mm 935 rfl) cI_6 l3 (by decide) (fun lv200 l3 s201 => ?_)
          have l0 := s201 _ _ l0 rfl
          have l1 := s201 _ _ l1 rfl
          have l2 := s201 _ _ l2 rfl
          refine ev_goto 18 (mm 936 rfl) rfl ?_
          exact ih l0 l1 l2 l3 h
        · refine ev_ic_f 1241 (mm 322 rfl) rfl c199 ?_
          refine ev_iconst (mm 323 rfl) cI_0 ?_
          exact ev_zreturn (mm 324 rfl) h
      rcases ite_so h with ⟨c204, h⟩ | ⟨c204, h⟩
      · refine ev_tsw (off := 484) 517 9 (mm 21 rfl) c204 rfl rfl ?_
        refine ev_aload_nR (mm 325 rfl) l1 ?_
        refine ev_aload_nX (mm 326 rfl) l0 ?_
        refine ev_iload_n (mm 327 rfl) l3 ?_
        refine ev_iconst (mm 328 rfl) cI_1 ?_
        refine ev_iadd (mm 329 rfl) ?_
        obtain ⟨v205, e206, h⟩ := bind_so h
        refine ev_xload rfl (mm 330 rfl) e206 ?_
        refine ev_aload_nX (mm 331 rfl) l0 ?_
        refine ev_iload_n (mm 332 rfl) l3 ?_
        refine ev_iconst (mm 333 rfl) cI_2 ?_
        refine ev_iadd (mm 334 rfl) ?_
        obtain ⟨v207, e208, h⟩ := bind_so h
        refine ev_xload rfl (mm 335 rfl) e208 ?_
        refine ev_aload_nX (mm 336 rfl) l0 ?_
        refine ev_iload_n (mm 337 rfl) l3 ?_
        refine ev_iconst (mm 338 rfl) cI_3 ?_
        refine ev_iadd (mm 339 rfl) ?_
        obtain ⟨v209, e210, h⟩ := bind_so h
        refine ev_xload rfl (mm 340 rfl) e210 ?_
        refine ev_aload_nX (mm 341 rfl) l0 ?_
        refine ev_iload_n (mm 342 rfl) l3 ?_
        refine ev_iconst (mm 343 rfl) cI_4 ?_
        refine ev_iadd (mm 344 rfl) ?_
        obtain ⟨v211, e212, h⟩ := bind_so h
        refine ev_xload rfl (mm 345 rfl) e212 ?_
        refine ev_aload_nX (mm 346 rfl) l0 ?_
        refine ev_iload_n (mm 347 rfl) l3 ?_
        refine ev_iconst (mm 348 rfl) cI_5 ?_
        refine ev_iadd (mm 349 rfl) ?_
        obtain ⟨v213, e214, h⟩ := bind_so h
        refine ev_xload rfl (mm 350 rfl) e214 ?_
        obtain ⟨_, e233, h⟩ := bind_so h
        obtain ⟨p215, e216, h⟩ := bind_so h
        refine ev_callV_I [.int (v205), .int (v207), .int (v209), .int (v211), .int (v213)] (mm 351 rfl) rfl rfl (Nat.le_of_ble_eq_true rfl) (s_ob_of e233) (f83_ok e216 (d + 127)) ?_
        refine ev_aload_nR (mm 352 rfl) l2 ?_
        refine ev_aload_nX (mm 353 rfl) l0 ?_
        refine ev_iload_n (mm 354 rfl) l3 ?_
        refine ev_iconst (mm 355 rfl) cI_1 ?_
        refine ev_iadd (mm 356 rfl) ?_
        obtain ⟨v217, e218, h⟩ := bind_so h
        refine ev_xload rfl (mm 357 rfl) e218 ?_
        refine ev_aload_nX (mm 358 rfl) l0 ?_
        refine ev_iload_n (mm 359 rfl) l3 ?_
        refine ev_iconst (mm 360 rfl) cI_2 ?_
        refine ev_iadd (mm 361 rfl) ?_
        obtain ⟨v219, e220, h⟩ := bind_so h
        refine ev_xload rfl (mm 362 rfl) e220 ?_
        refine ev_aload_nX (mm 363 rfl) l0 ?_
        refine ev_iload_n (mm 364 rfl) l3 ?_
        refine ev_iconst (mm 365 rfl) cI_3 ?_
        refine ev_iadd (mm 366 rfl) ?_
        obtain ⟨v221, e222, h⟩ := bind_so h
        refine ev_xload rfl (mm 367 rfl) e222 ?_
        refine ev_aload_nX (mm 368 rfl) l0 ?_
        refine ev_iload_n (mm 369 rfl) l3 ?_
        refine ev_iconst (mm 370 rfl) cI_4 ?_
        refine ev_iadd (mm 371 rfl) ?_
        obtain ⟨v223, e224, h⟩ := bind_so h
        refine ev_xload rfl (mm 372 rfl) e224 ?_
        refine ev_aload_nX (mm 373 rfl) l0 ?_
        refine ev_iload_n (mm 374 rfl) l3 ?_
        refine ev_iconst (mm 375 rfl) cI_5 ?_
        refine ev_iadd (mm 376 rfl) ?_
        obtain ⟨v225, e226, h⟩ := bind_so h
        refine ev_xload rfl (mm 377 rfl) e226 ?_
        obtain ⟨_, e232, h⟩ := bind_so h
        obtain ⟨p227, e228, h⟩ := bind_so h
        refine ev_callV_I [.int (v217), .int (v219), .int (v221), .int (v223), .int (v225)] (mm 378 rfl) rfl rfl (Nat.le_of_ble_eq_true rfl) (s_ob_of e232) (f134_ok e228 (d + 127)) ?_
        rcases ite_so h with ⟨c229, h⟩ | ⟨c229, h⟩
        · refine ev_ic_t 1241 (mm 379 rfl) rfl c229 ?_
          refine evs_iinc (mm 935 rfl) cI_6 l3 (by decide) (fun lv230 l3 s231 => ?_)
          have l0 := s231 _ _ l0 rfl
          have l1 := s231 _ _ l1 rfl
          have l2 := s231 _ _ l2 rfl
          refine ev_goto 18 (mm 936 rfl) rfl ?_
          exact ih l0 l1 l2 l3 h
        · refine ev_ic_f 1241 (mm 379 rfl) rfl c229 ?_
          refine ev_iconst (mm 380 rfl) cI_0 ?_
          exact ev_zreturn (mm 381 rfl) h
      rcases ite_so h with ⟨c234, h⟩ | ⟨c234, h⟩
      · refine ev_tsw (off := 547) 580 10 (mm 21 rfl) c234 rfl rfl ?_
        refine ev_aload_nR (mm 382 rfl) l1 ?_
        refine ev_aload_nX (mm 383 rfl) l0 ?_
        refine ev_iload_n (mm 384 rfl) l3 ?_
        refine ev_iconst (mm 385 rfl) cI_1 ?_
        refine ev_iadd (mm 386 rfl) ?_
        obtain ⟨v235, e236, h⟩ := bind_so h
        refine ev_xload rfl (mm 387 rfl) e236 ?_
        refine ev_aload_nX (mm 388 rfl) l0 ?_
        refine ev_iload_n (mm 389 rfl) l3 ?_
        refine ev_iconst (mm 390 rfl) cI_2 ?_
        refine ev_iadd (mm 391 rfl) ?_
        obtain ⟨v237, e238, h⟩ := bind_so h
        refine ev_xload rfl (mm 392 rfl) e238 ?_
        obtain ⟨_, e251, h⟩ := bind_so h
        obtain ⟨p239, e240, h⟩ := bind_so h
        refine ev_callV_I [.int (v235), .int (v237)] (mm 393 rfl) rfl rfl (Nat.le_of_ble_eq_true rfl) (s_ob_of e251) (f84_ok e240 (d + 0)) ?_
        refine ev_aload_nR (mm 394 rfl) l2 ?_
        refine ev_aload_nX (mm 395 rfl) l0 ?_
        refine ev_iload_n (mm 396 rfl) l3 ?_
        refine ev_iconst (mm 397 rfl) cI_1 ?_
        refine ev_iadd (mm 398 rfl) ?_
        obtain ⟨v241, e242, h⟩ := bind_so h
        refine ev_xload rfl (mm 399 rfl) e242 ?_
        refine ev_aload_nX (mm 400 rfl) l0 ?_
        refine ev_iload_n (mm 401 rfl) l3 ?_
        refine ev_iconst (mm 402 rfl) cI_2 ?_
        refine ev_iadd (mm 403 rfl) ?_
        obtain ⟨v243, e244, h⟩ := bind_so h
        refine ev_xload rfl (mm 404 rfl) e244 ?_
        obtain ⟨_, e250, h⟩ := bind_so h
        obtain ⟨p245, e246, h⟩ := bind_so h
        refine ev_callV_I [.int (v241), .int (v243)] (mm 405 rfl) rfl rfl (Nat.le_of_ble_eq_true rfl) (s_ob_of e250) (f157_ok e246 (d + 1)) ?_
        rcases ite_so h with ⟨c247, h⟩ | ⟨c247, h⟩
        · refine ev_ic_t 1241 (mm 406 rfl) rfl c247 ?_
          refine evs_iinc (mm 935 rfl) cI_6 l3 (by decide) (fun lv248 l3 s249 => ?_)
          have l0 := s249 _ _ l0 rfl
          have l1 := s249 _ _ l1 rfl
          have l2 := s249 _ _ l2 rfl
          refine ev_goto 18 (mm 936 rfl) rfl ?_
          exact ih l0 l1 l2 l3 h
        · refine ev_ic_f 1241 (mm 406 rfl) rfl c247 ?_
          refine ev_iconst (mm 407 rfl) cI_0 ?_
          exact ev_zreturn (mm 408 rfl) h
      rcases ite_so h with ⟨c252, h⟩ | ⟨c252, h⟩
      · refine ev_tsw (off := 580) 613 11 (mm 21 rfl) c252 rfl rfl ?_
        refine ev_aload_nR (mm 409 rfl) l1 ?_
        refine ev_aload_nX (mm 410 rfl) l0 ?_
        refine ev_iload_n (mm 411 rfl) l3 ?_
        refine ev_iconst (mm 412 rfl) cI_1 ?_
        refine ev_iadd (mm 413 rfl) ?_
        obtain ⟨v253, e254, h⟩ := bind_so h
        refine ev_xload rfl (mm 414 rfl) e254 ?_
        obtain ⟨_, e265, h⟩ := bind_so h
        obtain ⟨p255, e256, h⟩ := bind_so h
        refine ev_callV_I [.int (v253)] (mm 415 rfl) rfl rfl (Nat.le_of_ble_eq_true rfl) (s_ob_of e265) (f85_ok e256 (d + 0)) ?_
        refine ev_aload_nR (mm 416 rfl) l2 ?_
        refine ev_aload_nX (mm 417 rfl) l0 ?_
        refine ev_iload_n (mm 418 rfl) l3 ?_
        refine ev_iconst (mm 419 rfl) cI_1 ?_
        refine ev_iadd (mm 420 rfl) ?_
        obtain ⟨v257, e258, h⟩ := bind_so h
        refine ev_xload rfl (mm 421 rfl) e258 ?_
        obtain ⟨_, e264, h⟩ := bind_so h
        obtain ⟨p259, e260, h⟩ := bind_so h
        refine ev_callV_I [.int (v257)] (mm 422 rfl) rfl rfl (Nat.le_of_ble_eq_true rfl) (s_ob_of e264) (f158_ok e260 (d + 1)) ?_
        rcases ite_so h with ⟨c261, h⟩ | ⟨c261, h⟩
        · refine ev_ic_t 1241 (mm 423 rfl) rfl c261 ?_
          refine evs_iinc (mm 935 rfl) cI_6 l3 (by decide) (fun lv262 l3 s263 => ?_)
          have l0 := s263 _ _ l0 rfl
          have l1 := s263 _ _ l1 rfl
          have l2 := s263 _ _ l2 rfl
          refine ev_goto 18 (mm 936 rfl) rfl ?_
          exact ih l0 l1 l2 l3 h
        · refine ev_ic_f 1241 (mm 423 rfl) rfl c261 ?_
          refine ev_iconst (mm 424 rfl) cI_0 ?_
          exact ev_zreturn (mm 425 rfl) h
      rcases ite_so h with ⟨c266, h⟩ | ⟨c266, h⟩
      · refine ev_tsw (off := 603) 636 12 (mm 21 rfl) c266 rfl rfl ?_
        refine ev_aload_nR (mm 426 rfl) l1 ?_
        obtain ⟨_, e275, h⟩ := bind_so h
        obtain ⟨p267, e268, h⟩ := bind_so h
        refine ev_callV_I [] (mm 427 rfl) rfl rfl (Nat.le_of_ble_eq_true rfl) (s_ob_of e275) (f86_ok e268 (d + 128)) ?_
        refine ev_aload_nR (mm 428 rfl) l2 ?_
        obtain ⟨_, e274, h⟩ := bind_so h
        obtain ⟨p269, e270, h⟩ := bind_so h
        refine ev_callV_I [] (mm 429 rfl) rfl rfl (Nat.le_of_ble_eq_true rfl) (s_ob_of e274) (f159_ok e270 (d + 128)) ?_
        rcases ite_so h with ⟨c271, h⟩ | ⟨c271, h⟩
        · refine ev_ic_t 1241 (mm 430 rfl) rfl c271 ?_
          refine evs_iinc (mm 935 rfl) cI_6 l3 (by decide) (fun lv272 l3 s273 => ?_)
          have l0 := s273 _ _ l0 rfl
          have l1 := s273 _ _ l1 rfl
          have l2 := s273 _ _ l2 rfl
          refine ev_goto 18 (mm 936 rfl) rfl ?_
          exact ih l0 l1 l2 l3 h
        · refine ev_ic_f 1241 (mm 430 rfl) rfl c271 ?_
          refine ev_iconst (mm 431 rfl) cI_0 ?_
          exact ev_zreturn (mm 432 rfl) h
      rcases ite_so h with ⟨c276, h⟩ | ⟨c276, h⟩
      · refine ev_tsw (off := 616) 649 13 (mm 21 rfl) c276 rfl rfl ?_
        refine ev_aload_nR (mm 433 rfl) l1 ?_
        refine ev_aload_nX (mm 434 rfl) l0 ?_
        refine ev_iload_n (mm 435 rfl) l3 ?_
        refine ev_iconst (mm 436 rfl) cI_1 ?_
        refine ev_iadd (mm 437 rfl) ?_
        obtain ⟨v277, e278, h⟩ := bind_so h
        refine ev_xload rfl (mm 438 rfl) e278 ?_
        refine ev_aload_nX (mm 439 rfl) l0 ?_
        refine ev_iload_n (mm 440 rfl) l3 ?_
        refine ev_iconst (mm 441 rfl) cI_2 ?_
        refine ev_iadd (mm 442 rfl) ?_
        obtain ⟨v279, e280, h⟩ := bind_so h
        refine ev_xload rfl (mm 443 rfl) e280 ?_
        refine ev_aload_nX (mm 444 rfl) l0 ?_
        refine ev_iload_n (mm 445 rfl) l3 ?_
        refine ev_iconst (mm 446 rfl) cI_3 ?_
        refine ev_iadd (mm 447 rfl) ?_
        obtain ⟨v281, e282, h⟩ := bind_so h
        refine ev_xload rfl (mm 448 rfl) e282 ?_
        obtain ⟨_, e297, h⟩ := bind_so h
        obtain ⟨p283, e284, h⟩ := bind_so h
        refine ev_callV_I [.int (v277), .int (v279), .int (v281)] (mm 449 rfl) rfl rfl (Nat.le_of_ble_eq_true rfl) (s_ob_of e297) (f87_ok e284 (d + 126)) ?_
        refine ev_aload_nR (mm 450 rfl) l2 ?_
        refine ev_aload_nX (mm 451 rfl) l0 ?_
        refine ev_iload_n (mm 452 rfl) l3 ?_
        refine ev_iconst (mm 453 rfl) cI_1 ?_
        refine ev_iadd (mm 454 rfl) ?_
        obtain ⟨v285, e286, h⟩ := bind_so h
        refine ev_xload rfl (mm 455 rfl) e286 ?_
        refine ev_aload_nX (mm 456 rfl) l0 ?_
        refine ev_iload_n (mm 457 rfl) l3 ?_
        refine ev_iconst (mm 458 rfl) cI_2 ?_
        refine ev_iadd (mm 459 rfl) ?_
        obtain ⟨v287, e288, h⟩ := bind_so h
        refine ev_xload rfl (mm 460 rfl) e288 ?_
        refine ev_aload_nX (mm 461 rfl) l0 ?_
        refine ev_iload_n (mm 462 rfl) l3 ?_
        refine ev_iconst (mm 463 rfl) cI_3 ?_
        refine ev_iadd (mm 464 rfl) ?_
        obtain ⟨v289, e290, h⟩ := bind_so h
        refine ev_xload rfl (mm 465 rfl) e290 ?_
        obtain ⟨_, e296, h⟩ := bind_so h
        obtain ⟨p291, e292, h⟩ := bind_so h
        refine ev_callV_I [.int (v285), .int (v287), .int (v289)] (mm 466 rfl) rfl rfl (Nat.le_of_ble_eq_true rfl) (s_ob_of e296) (f164_ok e292 (d + 126)) ?_
        rcases ite_so h with ⟨c293, h⟩ | ⟨c293, h⟩
        · refine ev_ic_t 1241 (mm 467 rfl) rfl c293 ?_
          refine evs_iinc (mm 935 rfl) cI_6 l3 (by decide) (fun lv294 l3 s295 => ?_)
          have l0 := s295 _ _ l0 rfl
          have l1 := s295 _ _ l1 rfl
          have l2 := s295 _ _ l2 rfl
          refine ev_goto 18 (mm 936 rfl) rfl ?_
          exact ih l0 l1 l2 l3 h
        · refine ev_ic_f 1241 (mm 467 rfl) rfl c293 ?_
          refine ev_iconst (mm 468 rfl) cI_0 ?_
          exact ev_zreturn (mm 469 rfl) h
      rcases ite_so h with ⟨c298, h⟩ | ⟨c298, h⟩
      · refine ev_tsw (off := 659) 692 14 (mm 21 rfl) c298 rfl rfl ?_
        refine ev_aload_nR (mm 470 rfl) l1 ?_
        refine ev_aload_nX (mm 471 rfl) l0 ?_
        refine ev_iload_n (mm 472 rfl) l3 ?_
        refine ev_iconst (mm 473 rfl) cI_1 ?_
        refine ev_iadd (mm 474 rfl) ?_
        obtain ⟨v299, e300, h⟩ := bind_so h
        refine ev_xload rfl (mm 475 rfl) e300 ?_
        refine ev_aload_nX (mm 476 rfl) l0 ?_
        refine ev_iload_n (mm 477 rfl) l3 ?_
        refine ev_iconst (mm 478 rfl) cI_2 ?_
        refine ev_iadd (mm 479 rfl) ?_
        obtain ⟨v301, e302, h⟩ := bind_so h
        refine ev_xload rfl (mm 480 rfl) e302 ?_
        refine ev_aload_nX (mm 481 rfl) l0 ?_
        refine ev_iload_n (mm 482 rfl) l3 ?_
        refine ev_iconst (mm 483 rfl) cI_3 ?_
        refine ev_iadd (mm 484 rfl) ?_
        obtain ⟨v303, e304, h⟩ := bind_so h
        refine ev_xload rfl (mm 485 rfl) e304 ?_
        obtain ⟨_, e319, h⟩ := bind_so h
        obtain ⟨p305, e306, h⟩ := bind_so h
        refine ev_callV_J [.int (v299), .int (v301), .int (v303)] (mm 486 rfl) rfl rfl (Nat.le_of_ble_eq_true rfl) (s_ob_of e319) (f88_ok e306 (d + 122)) ?_
        refine ev_aload_nR (mm 487 rfl) l2 ?_
        refine ev_aload_nX (mm 488 rfl) l0 ?_
        refine ev_iload_n (mm 489 rfl) l3 ?_
        refine ev_iconst (mm 490 rfl) cI_1 ?_
        refine ev_iadd (mm 491 rfl) ?_
        obtain ⟨v307, e308, h⟩ := bind_so h
        refine ev_xload rfl (mm 492 rfl) e308 ?_
        refine ev_aload_nX (mm 493 rfl) l0 ?_
        refine ev_iload_n (mm 494 rfl) l3 ?_
        refine ev_iconst (mm 495 rfl) cI_2 ?_
        refine ev_iadd (mm 496 rfl) ?_
        obtain ⟨v309, e310, h⟩ := bind_so h
        refine ev_xload rfl (mm 497 rfl) e310 ?_
        refine ev_aload_nX (mm 498 rfl) l0 ?_
        refine ev_iload_n (mm 499 rfl) l3 ?_
        refine ev_iconst (mm 500 rfl) cI_3 ?_
        refine ev_iadd (mm 501 rfl) ?_
        obtain ⟨v311, e312, h⟩ := bind_so h
        refine ev_xload rfl (mm 502 rfl) e312 ?_
        obtain ⟨_, e318, h⟩ := bind_so h
        obtain ⟨p313, e314, h⟩ := bind_so h
        refine ev_callV_J [.int (v307), .int (v309), .int (v311)] (mm 503 rfl) rfl rfl (Nat.le_of_ble_eq_true rfl) (s_ob_of e318) (f178_ok e314 (d + 121)) ?_
        refine ev_lcmp (mm 504 rfl) ?_
        rcases ite_so h with ⟨c315, h⟩ | ⟨c315, h⟩
        · refine ev_if_t 1241 (mm 505 rfl) rfl c315 ?_
          refine evs_iinc (mm 935 rfl) cI_6 l3 (by decide) (fun lv316 l3 s317 => ?_)
          have l0 := s317 _ _ l0 rfl
          have l1 := s317 _ _ l1 rfl
          have l2 := s317 _ _ l2 rfl
          refine ev_goto 18 (mm 936 rfl) rfl ?_
          exact ih l0 l1 l2 l3 h
        · refine ev_if_f 1241 (mm 505 rfl) rfl c315 ?_
          refine ev_iconst (mm 506 rfl) cI_0 ?_
          exact ev_zreturn (mm 507 rfl) h
      rcases ite_so h with ⟨c320, h⟩ | ⟨c320, h⟩
      · refine ev_tsw (off := 703) 736 15 (mm 21 rfl) c320 rfl rfl ?_
        refine ev_aload_nR (mm 508 rfl) l1 ?_
        refine ev_aload_nX (mm 509 rfl) l0 ?_
        refine ev_iload_n (mm 510 rfl) l3 ?_
        refine ev_iconst (mm 511 rfl) cI_1 ?_
        refine ev_iadd (mm 512 rfl) ?_
        obtain ⟨v321, e322, h⟩ := bind_so h
        refine ev_xload rfl (mm 513 rfl) e322 ?_
        refine ev_aload_nX (mm 514 rfl) l0 ?_
        refine ev_iload_n (mm 515 rfl) l3 ?_
        refine ev_iconst (mm 516 rfl) cI_2 ?_
        refine ev_iadd (mm 517 rfl) ?_
        obtain ⟨v323, e324, h⟩ := bind_so h
        refine ev_xload rfl (mm 518 rfl) e324 ?_
        refine ev_aload_nX (mm 519 rfl) l0 ?_
        refine ev_iload_n (mm 520 rfl) l3 ?_
        refine ev_iconst (mm 521 rfl) cI_3 ?_
        refine ev_iadd (mm 522 rfl) ?_
        obtain ⟨v325, e326, h⟩ := bind_so h
        refine ev_xload rfl (mm 523 rfl) e326 ?_
        obtain ⟨_, e341, h⟩ := bind_so h
        obtain ⟨p327, e328, h⟩ := bind_so h
        refine ev_callV_J [.int (v321), .int (v323), .int (v325)] (mm 524 rfl) rfl rfl (Nat.le_of_ble_eq_true rfl) (s_ob_of e341) (f89_ok e328 (d + 122)) ?_
        refine ev_aload_nR (mm 525 rfl) l2 ?_
        refine ev_aload_nX (mm 526 rfl) l0 ?_
        refine ev_iload_n (mm 527 rfl) l3 ?_
        refine ev_iconst (mm 528 rfl) cI_1 ?_
        refine ev_iadd (mm 529 rfl) ?_
        obtain ⟨v329, e330, h⟩ := bind_so h
        refine ev_xload rfl (mm 530 rfl) e330 ?_
        refine ev_aload_nX (mm 531 rfl) l0 ?_
        refine ev_iload_n (mm 532 rfl) l3 ?_
        refine ev_iconst (mm 533 rfl) cI_2 ?_
        refine ev_iadd (mm 534 rfl) ?_
        obtain ⟨v331, e332, h⟩ := bind_so h
        refine ev_xload rfl (mm 535 rfl) e332 ?_
        refine ev_aload_nX (mm 536 rfl) l0 ?_
        refine ev_iload_n (mm 537 rfl) l3 ?_
        refine ev_iconst (mm 538 rfl) cI_3 ?_
        refine ev_iadd (mm 539 rfl) ?_
        obtain ⟨v333, e334, h⟩ := bind_so h
        refine ev_xload rfl (mm 540 rfl) e334 ?_
        obtain ⟨_, e340, h⟩ := bind_so h
        obtain ⟨p335, e336, h⟩ := bind_so h
        refine ev_callV_J [.int (v329), .int (v331), .int (v333)] (mm 541 rfl) rfl rfl (Nat.le_of_ble_eq_true rfl) (s_ob_of e340) (f183_ok e336 (d + 120)) ?_
        refine ev_lcmp (mm 542 rfl) ?_
        rcases ite_so h with ⟨c337, h⟩ | ⟨c337, h⟩
        · refine ev_if_t 1241 (mm 543 rfl) rfl c337 ?_
          refine evs_iinc (mm 935 rfl) cI_6 l3 (by decide) (fun lv338 l3 s339 => ?_)
          have l0 := s339 _ _ l0 rfl
          have l1 := s339 _ _ l1 rfl
          have l2 := s339 _ _ l2 rfl
          refine ev_goto 18 (mm 936 rfl) rfl ?_
          exact ih l0 l1 l2 l3 h
        · refine ev_if_f 1241 (mm 543 rfl) rfl c337 ?_
          refine ev_iconst (mm 544 rfl) cI_0 ?_
          exact ev_zreturn (mm 545 rfl) h
      rcases ite_so h with ⟨c342, h⟩ | ⟨c342, h⟩
      · refine ev_tsw (off := 747) 780 16 (mm 21 rfl) c342 rfl rfl ?_
        refine ev_aload_nR (mm 546 rfl) l1 ?_
        refine ev_aload_nX (mm 547 rfl) l0 ?_
        refine ev_iload_n (mm 548 rfl) l3 ?_
        refine ev_iconst (mm 549 rfl) cI_1 ?_
        refine ev_iadd (mm 550 rfl) ?_
        obtain ⟨v343, e344, h⟩ := bind_so h
        refine ev_xload rfl (mm 551 rfl) e344 ?_
        refine ev_aload_nX (mm 552 rfl) l0 ?_
        refine ev_iload_n (mm 553 rfl) l3 ?_
        refine ev_iconst (mm 554 rfl) cI_2 ?_
        refine ev_iadd (mm 555 rfl) ?_
        obtain ⟨v345, e346, h⟩ := bind_so h
        refine ev_xload rfl (mm 556 rfl) e346 ?_
        obtain ⟨_, e359, h⟩ := bind_so h
        obtain ⟨p347, e348, h⟩ := bind_so h
        refine ev_callV_J [.int (v343), .int (v345)] (mm 557 rfl) rfl rfl (Nat.le_of_ble_eq_true rfl) (s_ob_of e359) (f90_ok e348 (d + 122)) ?_
        refine ev_aload_nR (mm 558 rfl) l2 ?_
        refine ev_aload_nX (mm 559 rfl) l0 ?_
        refine ev_iload_n (mm 560 rfl) l3 ?_
        refine ev_iconst (mm 561 rfl) cI_1 ?_
        refine ev_iadd (mm 562 rfl) ?_
        obtain ⟨v349, e350, h⟩ := bind_so h
        refine ev_xload rfl (mm 563 rfl) e350 ?_
        refine ev_aload_nX (mm 564 rfl) l0 ?_
        refine ev_iload_n (mm 565 rfl) l3 ?_
        refine ev_iconst (mm 566 rfl) cI_2 ?_
        refine ev_iadd (mm 567 rfl) ?_
        obtain ⟨v351, e352, h⟩ := bind_so h
        refine ev_xload rfl (mm 568 rfl) e352 ?_
        obtain ⟨_, e358, h⟩ := bind_so h
        obtain ⟨p353, e354, h⟩ := bind_so h
        refine ev_callV_J [.int (v349), .int (v351)] (mm 569 rfl) rfl rfl (Nat.le_of_ble_eq_true rfl) (s_ob_of e358) (f182_ok e354 (d + 120)) ?_
        refine ev_lcmp (mm 570 rfl) ?_
        rcases ite_so h with ⟨c355, h⟩ | ⟨c355, h⟩
        · refine ev_if_t 1241 (mm 571 rfl) rfl c355 ?_
          refine evs_iinc (mm 935 rfl) cI_6 l3 (by decide) (fun lv356 l3 s357 => ?_)
          have l0 := s357 _ _ l0 rfl
          have l1 := s357 _ _ l1 rfl
          have l2 := s357 _ _ l2 rfl
          refine ev_goto 18 (mm 936 rfl) rfl ?_
          exact ih l0 l1 l2 l3 h
        · refine ev_if_f 1241 (mm 571 rfl) rfl c355 ?_
          refine ev_iconst (mm 572 rfl) cI_0 ?_
          exact ev_zreturn (mm 573 rfl) h
      rcases ite_so h with ⟨c360, h⟩ | ⟨c360, h⟩
      · refine ev_tsw (off := 781) 814 17 (mm 21 rfl) c360 rfl rfl ?_
        refine ev_aload_nR (mm 574 rfl) l1 ?_
        refine ev_aload_nX (mm 575 rfl) l0 ?_
        refine ev_iload_n (mm 576 rfl) l3 ?_
        refine ev_iconst (mm 577 rfl) cI_1 ?_
        refine ev_iadd (mm 578 rfl) ?_
        obtain ⟨v361, e362, h⟩ := bind_so h
        refine ev_xload rfl (mm 579 rfl) e362 ?_
        refine ev_aload_nX (mm 580 rfl) l0 ?_
        refine ev_iload_n (mm 581 rfl) l3 ?_
        refine ev_iconst (mm 582 rfl) cI_2 ?_
        refine ev_iadd (mm 583 rfl) ?_
        obtain ⟨v363, e364, h⟩ := bind_so h
        refine ev_xload rfl (mm 584 rfl) e364 ?_
        obtain ⟨_, e377, h⟩ := bind_so h
        obtain ⟨p365, e366, h⟩ := bind_so h
        refine ev_callV_J [.int (v361), .int (v363)] (mm 585 rfl) rfl rfl (Nat.le_of_ble_eq_true rfl) (s_ob_of e377) (f91_ok e366 (d + 122)) ?_
        refine ev_aload_nR (mm 586 rfl) l2 ?_
        refine ev_aload_nX (mm 587 rfl) l0 ?_
        refine ev_iload_n (mm 588 rfl) l3 ?_
        refine ev_iconst (mm 589 rfl) cI_1 ?_
        refine ev_iadd (mm 590 rfl) ?_
        obtain ⟨v367, e368, h⟩ := bind_so h
        refine ev_xload rfl (mm 591 rfl) e368 ?_
        refine ev_aload_nX (mm 592 rfl) l0 ?_
        refine ev_iload_n (mm 593 rfl) l3 ?_
        refine ev_iconst (mm 594 rfl) cI_2 ?_
        refine ev_iadd (mm 595 rfl) ?_
        obtain ⟨v369, e370, h⟩ := bind_so h
        refine ev_xload rfl (mm 596 rfl) e370 ?_
        obtain ⟨_, e376, h⟩ := bind_so h
        obtain ⟨p371, e372, h⟩ := bind_so h
        refine ev_callV_J [.int (v367), .int (v369)] (mm 597 rfl) rfl rfl (Nat.le_of_ble_eq_true rfl) (s_ob_of e376) (f179_ok e372 (d + 121)) ?_
        refine ev_lcmp (mm 598 rfl) ?_
        rcases ite_so h with ⟨c373, h⟩ | ⟨c373, h⟩
        · refine ev_if_t 1241 (mm 599 rfl) rfl c373 ?_
          refine evs_iinc (mm 935 rfl) cI_6 l3 (by decide) (fun lv374 l3 s375 => ?_)
          have l0 := s375 _ _ l0 rfl
          have l1 := s375 _ _ l1 rfl
          have l2 := s375 _ _ l2 rfl
          refine ev_goto 18 (mm 936 rfl) rfl ?_
          exact ih l0 l1 l2 l3 h
        · refine ev_if_f 1241 (mm 599 rfl) rfl c373 ?_
          refine ev_iconst (mm 600 rfl) cI_0 ?_
          exact ev_zreturn (mm 601 rfl) h
      rcases ite_so h with ⟨c378, h⟩ | ⟨c378, h⟩
      · refine ev_tsw (off := 815) 848 18 (mm 21 rfl) c378 rfl rfl ?_
        refine ev_aload_nR (mm 602 rfl) l1 ?_
        refine ev_aload_nX (mm 603 rfl) l0 ?_
        refine ev_iload_n (mm 604 rfl) l3 ?_
        refine ev_iconst (mm 605 rfl) cI_1 ?_
        refine ev_iadd (mm 606 rfl) ?_
        obtain ⟨v379, e380, h⟩ := bind_so h
        refine ev_xload rfl (mm 607 rfl) e380 ?_
        refine ev_aload_nX (mm 608 rfl) l0 ?_
        refine ev_iload_n (mm 609 rfl) l3 ?_
        refine ev_iconst (mm 610 rfl) cI_2 ?_
        refine ev_iadd (mm 611 rfl) ?_
        obtain ⟨v381, e382, h⟩ := bind_so h
        refine ev_xload rfl (mm 612 rfl) e382 ?_
        refine ev_aload_nX (mm 613 rfl) l0 ?_
        refine ev_iload_n (mm 614 rfl) l3 ?_
        refine ev_iconst (mm 615 rfl) cI_3 ?_
        refine ev_iadd (mm 616 rfl) ?_
        obtain ⟨v383, e384, h⟩ := bind_so h
        refine ev_xload rfl (mm 617 rfl) e384 ?_
        refine ev_aload_nX (mm 618 rfl) l0 ?_
        refine ev_iload_n (mm 619 rfl) l3 ?_
        refine ev_iconst (mm 620 rfl) cI_4 ?_
        refine ev_iadd (mm 621 rfl) ?_
        obtain ⟨v385, e386, h⟩ := bind_so h
        refine ev_xload rfl (mm 622 rfl) e386 ?_
        refine ev_aload_nX (mm 623 rfl) l0 ?_
        refine ev_iload_n (mm 624 rfl) l3 ?_
        refine ev_iconst (mm 625 rfl) cI_5 ?_
        refine ev_iadd (mm 626 rfl) ?_
        obtain ⟨v387, e388, h⟩ := bind_so h
        refine ev_xload rfl (mm 627 rfl) e388 ?_
        obtain ⟨_, e407, h⟩ := bind_so h
        obtain ⟨p389, e390, h⟩ := bind_so h
        refine ev_callV_I [.int (v379), .int (v381), .int (v383), .int (v385), .int (v387)] (mm 628 rfl) rfl rfl (Nat.le_of_ble_eq_true rfl) (s_ob_of e407) (f92_ok e390 (d + 125)) ?_
        refine ev_aload_nR (mm 629 rfl) l2 ?_
        refine ev_aload_nX (mm 630 rfl) l0 ?_
        refine ev_iload_n (mm 631 rfl) l3 ?_
        refine ev_iconst (mm 632 rfl) cI_1 ?_
        refine ev_iadd (mm 633 rfl) ?_
        obtain ⟨v391, e392, h⟩ := bind_so h
        refine ev_xload rfl (mm 634 rfl) e392 ?_
        refine ev_aload_nX (mm 635 rfl) l0 ?_
        refine ev_iload_n (mm 636 rfl) l3 ?_
        refine ev_iconst (mm 637 rfl) cI_2 ?_
        refine ev_iadd (mm 638 rfl) ?_
        obtain ⟨v393, e394, h⟩ := bind_so h
        refine ev_xload rfl (mm 639 rfl) e394 ?_
        refine ev_aload_nX (mm 640 rfl) l0 ?_
        refine ev_iload_n (mm 641 rfl) l3 ?_
        refine ev_iconst (mm 642 rfl) cI_3 ?_
        refine ev_iadd (mm 643 rfl) ?_
        obtain ⟨v395, e396, h⟩ := bind_so h
        refine ev_xload rfl (mm 644 rfl) e396 ?_
        refine ev_aload_nX (mm 645 rfl) l0 ?_
        refine ev_iload_n (mm 646 rfl) l3 ?_
        refine ev_iconst (mm 647 rfl) cI_4 ?_
        refine ev_iadd (mm 648 rfl) ?_
        obtain ⟨v397, e398, h⟩ := bind_so h
        refine ev_xload rfl (mm 649 rfl) e398 ?_
        refine ev_aload_nX (mm 650 rfl) l0 ?_
        refine ev_iload_n (mm 651 rfl) l3 ?_
        refine ev_iconst (mm 652 rfl) cI_5 ?_
        refine ev_iadd (mm 653 rfl) ?_
        obtain ⟨v399, e400, h⟩ := bind_so h
        refine ev_xload rfl (mm 654 rfl) e400 ?_
        obtain ⟨_, e406, h⟩ := bind_so h
        obtain ⟨p401, e402, h⟩ := bind_so h
        refine ev_callV_I [.int (v391), .int (v393), .int (v395), .int (v397), .int (v399)] (mm 655 rfl) rfl rfl (Nat.le_of_ble_eq_true rfl) (s_ob_of e406) (f184_ok e402 (d + 126)) ?_
        rcases ite_so h with ⟨c403, h⟩ | ⟨c403, h⟩
        · refine ev_ic_t 1241 (mm 656 rfl) rfl c403 ?_
          refine evs_iinc (mm 935 rfl) cI_6 l3 (by decide) (fun lv404 l3 s405 => ?_)
          have l0 := s405 _ _ l0 rfl
          have l1 := s405 _ _ l1 rfl
          have l2 := s405 _ _ l2 rfl
          refine ev_goto 18 (mm 936 rfl) rfl ?_
          exact ih l0 l1 l2 l3 h
        · refine ev_ic_f 1241 (mm 656 rfl) rfl c403 ?_
          refine ev_iconst (mm 657 rfl) cI_0 ?_
          exact ev_zreturn (mm 658 rfl) h
      rcases ite_so h with ⟨c408, h⟩ | ⟨c408, h⟩
      · refine ev_tsw (off := 878) 911 19 (mm 21 rfl) c408 rfl rfl ?_
        refine ev_aload_nR (mm 659 rfl) l1 ?_
        refine ev_aload_nX (mm 660 rfl) l0 ?_
        refine ev_iload_n (mm 661 rfl) l3 ?_
        refine ev_iconst (mm 662 rfl) cI_1 ?_
        refine ev_iadd (mm 663 rfl) ?_
        obtain ⟨v409, e410, h⟩ := bind_so h
        refine ev_xload rfl (mm 664 rfl) e410 ?_
        refine ev_aload_nX (mm 665 rfl) l0 ?_
        refine ev_iload_n (mm 666 rfl) l3 ?_
        refine ev_iconst (mm 667 rfl) cI_2 ?_
        refine ev_iadd (mm 668 rfl) ?_
        obtain ⟨v411, e412, h⟩ := bind_so h
        refine ev_xload rfl (mm 669 rfl) e412 ?_
        obtain ⟨_, e425, h⟩ := bind_so h
        obtain ⟨p413, e414, h⟩ := bind_so h
        refine ev_callV_I [.int (v409), .int (v411)] (mm 670 rfl) rfl rfl (Nat.le_of_ble_eq_true rfl) (s_ob_of e425) (f93_ok e414 (d + 126)) ?_
        refine ev_aload_nR (mm 671 rfl) l2 ?_
        refine ev_aload_nX (mm 672 rfl) l0 ?_
        refine ev_iload_n (mm 673 rfl) l3 ?_
        refine ev_iconst (mm 674 rfl) cI_1 ?_
        refine ev_iadd (mm 675 rfl) ?_
        obtain ⟨v415, e416, h⟩ := bind_so h
        refine ev_xload rfl (mm 676 rfl) e416 ?_
        refine ev_aload_nX (mm 677 rfl) l0 ?_
        refine ev_iload_n (mm 678 rfl) l3 ?_
        refine ev_iconst (mm 679 rfl) cI_2 ?_
        refine ev_iadd (mm 680 rfl) ?_
        obtain ⟨v417, e418, h⟩ := bind_so h
        refine ev_xload rfl (mm 681 rfl) e418 ?_
        obtain ⟨_, e424, h⟩ := bind_so h
        obtain ⟨p419, e420, h⟩ := bind_so h
        refine ev_callV_I [.int (v415), .int (v417)] (mm 682 rfl) rfl rfl (Nat.le_of_ble_eq_true rfl) (s_ob_of e424) (f185_ok e420 (d + 126)) ?_
        rcases ite_so h with ⟨c421, h⟩ | ⟨c421, h⟩
        · refine ev_ic_t 1241 (mm 683 rfl) rfl c421 ?_
          refine evs_iinc (mm 935 rfl) cI_6 l3 (by decide) (fun lv422 l3 s423 => ?_)
          have l0 := s423 _ _ l0 rfl
          have l1 := s423 _ _ l1 rfl
          have l2 := s423 _ _ l2 rfl
          refine ev_goto 18 (mm 936 rfl) rfl ?_
          exact ih l0 l1 l2 l3 h
        · refine ev_ic_f 1241 (mm 683 rfl) rfl c421 ?_
          refine ev_iconst (mm 684 rfl) cI_0 ?_
          exact ev_zreturn (mm 685 rfl) h
      rcases ite_so h with ⟨c426, h⟩ | ⟨c426, h⟩
      · refine ev_tsw (off := 911) 944 20 (mm 21 rfl) c426 rfl rfl ?_
        refine ev_aload_nR (mm 686 rfl) l1 ?_
        refine ev_aload_nX (mm 687 rfl) l0 ?_
        refine ev_iload_n (mm 688 rfl) l3 ?_
        refine ev_iconst (mm 689 rfl) cI_1 ?_
        refine ev_iadd (mm 690 rfl) ?_
        obtain ⟨v427, e428, h⟩ := bind_so h
        refine ev_xload rfl (mm 691 rfl) e428 ?_
        obtain ⟨_, e439, h⟩ := bind_so h
        obtain ⟨p429, e430, h⟩ := bind_so h
        refine ev_callV_I [.int (v427)] (mm 692 rfl) rfl rfl (Nat.le_of_ble_eq_true rfl) (s_ob_of e439) (f94_ok e430 (d + 121)) ?_
        refine ev_aload_nR (mm 693 rfl) l2 ?_
        refine ev_aload_nX (mm 694 rfl) l0 ?_
        refine ev_iload_n (mm 695 rfl) l3 ?_
        refine ev_iconst (mm 696 rfl) cI_1 ?_
        refine ev_iadd (mm 697 rfl) ?_
        obtain ⟨v431, e432, h⟩ := bind_so h
        refine ev_xload rfl (mm 698 rfl) e432 ?_
        obtain ⟨_, e438, h⟩ := bind_so h
        obtain ⟨p433, e434, h⟩ := bind_so h
        refine ev_callV_I [.int (v431)] (mm 699 rfl) rfl rfl (Nat.le_of_ble_eq_true rfl) (s_ob_of e438) (f186_ok e434 (d + 121)) ?_
        rcases ite_so h with ⟨c435, h⟩ | ⟨c435, h⟩
        · refine ev_ic_t 1241 (mm 700 rfl) rfl c435 ?_
          refine evs_iinc (mm 935 rfl) cI_6 l3 (by decide) (fun lv436 l3 s437 => ?_)
          have l0 := s437 _ _ l0 rfl
          have l1 := s437 _ _ l1 rfl
          have l2 := s437 _ _ l2 rfl
          refine ev_goto 18 (mm 936 rfl) rfl ?_
          exact ih l0 l1 l2 l3 h
        · refine ev_ic_f 1241 (mm 700 rfl) rfl c435 ?_
          refine ev_iconst (mm 701 rfl) cI_0 ?_
          exact ev_zreturn (mm 702 rfl) h
      rcases ite_so h with ⟨c440, h⟩ | ⟨c440, h⟩
      · refine ev_tsw (off := 934) 967 21 (mm 21 rfl) c440 rfl rfl ?_
        refine ev_aload_nR (mm 703 rfl) l1 ?_
        refine ev_aload_nX (mm 704 rfl) l0 ?_
        refine ev_iload_n (mm 705 rfl) l3 ?_
        refine ev_iconst (mm 706 rfl) cI_1 ?_
        refine ev_iadd (mm 707 rfl) ?_
        obtain ⟨v441, e442, h⟩ := bind_so h
        refine ev_xload rfl (mm 708 rfl) e442 ?_
        refine ev_aload_nX (mm 709 rfl) l0 ?_
        refine ev_iload_n (mm 710 rfl) l3 ?_
        refine ev_iconst (mm 711 rfl) cI_2 ?_
        refine ev_iadd (mm 712 rfl) ?_
        obtain ⟨v443, e444, h⟩ := bind_so h
        refine ev_xload rfl (mm 713 rfl) e444 ?_
        obtain ⟨_, e457, h⟩ := bind_so h
        obtain ⟨p445, e446, h⟩ := bind_so h
        refine ev_callV_J [.int (v441), .int (v443)] (mm 714 rfl) rfl rfl (Nat.le_of_ble_eq_true rfl) (s_ob_of e457) (f95_ok e446 (d + 122)) ?_
        refine ev_aload_nR (mm 715 rfl) l2 ?_
        refine ev_aload_nX (mm 716 rfl) l0 ?_
        refine ev_iload_n (mm 717 rfl) l3 ?_
        refine ev_iconst (mm 718 rfl) cI_1 ?_
        refine ev_iadd (mm 719 rfl) ?_
        obtain ⟨v447, e448, h⟩ := bind_so h
        refine ev_xload rfl (mm 720 rfl) e448 ?_
        refine ev_aload_nX (mm 721 rfl) l0 ?_
        refine ev_iload_n (mm 722 rfl) l3 ?_
        refine ev_iconst (mm 723 rfl) cI_2 ?_
        refine ev_iadd (mm 724 rfl) ?_
        obtain ⟨v449, e450, h⟩ := bind_so h
        refine ev_xload rfl (mm 725 rfl) e450 ?_
        obtain ⟨_, e456, h⟩ := bind_so h
        obtain ⟨p451, e452, h⟩ := bind_so h
        refine ev_callV_J [.int (v447), .int (v449)] (mm 726 rfl) rfl rfl (Nat.le_of_ble_eq_true rfl) (s_ob_of e456) (f188_ok e452 (d + 121)) ?_
        refine ev_lcmp (mm 727 rfl) ?_
        rcases ite_so h with ⟨c453, h⟩ | ⟨c453, h⟩
        · refine ev_if_t 1241 (mm 728 rfl) rfl c453 ?_
          refine evs_iinc (mm 935 rfl) cI_6 l3 (by decide) (fun lv454 l3 s455 => ?_)
          have l0 := s455 _ _ l0 rfl
          have l1 := s455 _ _ l1 rfl
          have l2 := s455 _ _ l2 rfl
          refine ev_goto 18 (mm 936 rfl) rfl ?_
          exact ih l0 l1 l2 l3 h
        · refine ev_if_f 1241 (mm 728 rfl) rfl c453 ?_
          refine ev_iconst (mm 729 rfl) cI_0 ?_
          exact ev_zreturn (mm 730 rfl) h
      rcases ite_so h with ⟨c458, h⟩ | ⟨c458, h⟩
      · refine ev_tsw (off := 968) 1001 22 (mm 21 rfl) c458 rfl rfl ?_
        refine ev_aload_nR (mm 731 rfl) l1 ?_
        refine ev_aload_nX (mm 732 rfl) l0 ?_
        refine ev_iload_n (mm 733 rfl) l3 ?_
        refine ev_iconst (mm 734 rfl) cI_1 ?_
        refine ev_iadd (mm 735 rfl) ?_
        obtain ⟨v459, e460, h⟩ := bind_so h
        refine ev_xload rfl (mm 736 rfl) e460 ?_
        obtain ⟨_, e471, h⟩ := bind_so h
        obtain ⟨p461, e462, h⟩ := bind_so h
        refine ev_callV_I [.int (v459)] (mm 737 rfl) rfl rfl (Nat.le_of_ble_eq_true rfl) (s_ob_of e471) (f96_ok e462 (d + 122)) ?_
        refine ev_aload_nR (mm 738 rfl) l2 ?_
        refine ev_aload_nX (mm 739 rfl) l0 ?_
        refine ev_iload_n (mm 740 rfl) l3 ?_
        refine ev_iconst (mm 741 rfl) cI_1 ?_
        refine ev_iadd (mm 742 rfl) ?_
        obtain ⟨v463, e464, h⟩ := bind_so h
        refine ev_xload rfl (mm 743 rfl) e464 ?_
        obtain ⟨_, e470, h⟩ := bind_so h
        obtain ⟨p465, e466, h⟩ := bind_so h
        refine ev_callV_I [.int (v463)] (mm 744 rfl) rfl rfl (Nat.le_of_ble_eq_true rfl) (s_ob_of e470) (f189_ok e466 (d + 121)) ?_
        rcases ite_so h with ⟨c467, h⟩ | ⟨c467, h⟩
        · refine ev_ic_t 1241 (mm 745 rfl) rfl c467 ?_
          refine evs_iinc (mm 935 rfl) cI_6 l3 (by decide) (fun lv468 l3 s469 => ?_)
          have l0 := s469 _ _ l0 rfl
          have l1 := s469 _ _ l1 rfl
          have l2 := s469 _ _ l2 rfl
          refine ev_goto 18 (mm 936 rfl) rfl ?_
          exact ih l0 l1 l2 l3 h
        · refine ev_ic_f 1241 (mm 745 rfl) rfl c467 ?_
          refine ev_iconst (mm 746 rfl) cI_0 ?_
          exact ev_zreturn (mm 747 rfl) h
      rcases ite_so h with ⟨c472, h⟩ | ⟨c472, h⟩
      · refine ev_tsw (off := 991) 1024 23 (mm 21 rfl) c472 rfl rfl ?_
        refine ev_aload_nR (mm 748 rfl) l1 ?_
        refine ev_aload_nX (mm 749 rfl) l0 ?_
        refine ev_iload_n (mm 750 rfl) l3 ?_
        refine ev_iconst (mm 751 rfl) cI_1 ?_
        refine ev_iadd (mm 752 rfl) ?_
        obtain ⟨v473, e474, h⟩ := bind_so h
        refine ev_xload rfl (mm 753 rfl) e474 ?_
        refine ev_aload_nX (mm 754 rfl) l0 ?_
        refine ev_iload_n (mm 755 rfl) l3 ?_
        refine ev_iconst (mm 756 rfl) cI_2 ?_
        refine ev_iadd (mm 757 rfl) ?_
        obtain ⟨v475, e476, h⟩ := bind_so h
        refine ev_xload rfl (mm 758 rfl) e476 ?_
        refine ev_aload_nX (mm 759 rfl) l0 ?_
        refine ev_iload_n (mm 760 rfl) l3 ?_
        refine ev_iconst (mm 761 rfl) cI_3 ?_
        refine ev_iadd (mm 762 rfl) ?_
        obtain ⟨v477, e478, h⟩ := bind_so h
        refine ev_xload rfl (mm 763 rfl) e478 ?_
        obtain ⟨_, e493, h⟩ := bind_so h
        obtain ⟨p479, e480, h⟩ := bind_so h
        refine ev_callV_J [.int (v473), .int (v475), .int (v477)] (mm 764 rfl) rfl rfl (Nat.le_of_ble_eq_true rfl) (s_ob_of e493) (f97_ok e480 (d + 122)) ?_
        refine ev_aload_nR (mm 765 rfl) l2 ?_
        refine ev_aload_nX (mm 766 rfl) l0 ?_
        refine ev_iload_n (mm 767 rfl) l3 ?_
        refine ev_iconst (mm 768 rfl) cI_1 ?_
        refine ev_iadd (mm 769 rfl) ?_
        obtain ⟨v481, e482, h⟩ := bind_so h
        refine ev_xload rfl (mm 770 rfl) e482 ?_
        refine ev_aload_nX (mm 771 rfl) l0 ?_
        refine ev_iload_n (mm 772 rfl) l3 ?_
        refine ev_iconst (mm 773 rfl) cI_2 ?_
        refine ev_iadd (mm 774 rfl) ?_
        obtain ⟨v483, e484, h⟩ := bind_so h
        refine ev_xload rfl (mm 775 rfl) e484 ?_
        refine ev_aload_nX (mm 776 rfl) l0 ?_
        refine ev_iload_n (mm 777 rfl) l3 ?_
        refine ev_iconst (mm 778 rfl) cI_3 ?_
        refine ev_iadd (mm 779 rfl) ?_
        obtain ⟨v485, e486, h⟩ := bind_so h
        refine ev_xload rfl (mm 780 rfl) e486 ?_
        obtain ⟨_, e492, h⟩ := bind_so h
        obtain ⟨p487, e488, h⟩ := bind_so h
        refine ev_callV_J [.int (v481), .int (v483), .int (v485)] (mm 781 rfl) rfl rfl (Nat.le_of_ble_eq_true rfl) (s_ob_of e492) (f190_ok e488 (d + 121)) ?_
        refine ev_lcmp (mm 782 rfl) ?_
        rcases ite_so h with ⟨c489, h⟩ | ⟨c489, h⟩
        · refine ev_if_t 1241 (mm 783 rfl) rfl c489 ?_
          refine evs_iinc (mm 935 rfl) cI_6 l3 (by decide) (fun lv490 l3 s491 => ?_)
          have l0 := s491 _ _ l0 rfl
          have l1 := s491 _ _ l1 rfl
          have l2 := s491 _ _ l2 rfl
          refine ev_goto 18 (mm 936 rfl) rfl ?_
          exact ih l0 l1 l2 l3 h
        · refine ev_if_f 1241 (mm 783 rfl) rfl c489 ?_
          refine ev_iconst (mm 784 rfl) cI_0 ?_
          exact ev_zreturn (mm 785 rfl) h
      rcases ite_so h with ⟨c494, h⟩ | ⟨c494, h⟩
      · refine ev_tsw (off := 1035) 1068 24 (mm 21 rfl) c494 rfl rfl ?_
        refine ev_aload_nR (mm 786 rfl) l1 ?_
        refine ev_aload_nX (mm 787 rfl) l0 ?_
        refine ev_iload_n (mm 788 rfl) l3 ?_
        refine ev_iconst (mm 789 rfl) cI_1 ?_
        refine ev_iadd (mm 790 rfl) ?_
        obtain ⟨v495, e496, h⟩ := bind_so h
        refine ev_xload rfl (mm 791 rfl) e496 ?_
        refine ev_aload_nX (mm 792 rfl) l0 ?_
        refine ev_iload_n (mm 793 rfl) l3 ?_
        refine ev_iconst (mm 794 rfl) cI_2 ?_
        refine ev_iadd (mm 795 rfl) ?_
        obtain ⟨v497, e498, h⟩ := bind_so h
        refine ev_xload rfl (mm 796 rfl) e498 ?_
        refine ev_aload_nX (mm 797 rfl) l0 ?_
        refine ev_iload_n (mm 798 rfl) l3 ?_
        refine ev_iconst (mm 799 rfl) cI_3 ?_
        refine ev_iadd (mm 800 rfl) ?_
        obtain ⟨v499, e500, h⟩ := bind_so h
        refine ev_xload rfl (mm 801 rfl) e500 ?_
        refine ev_aload_nX (mm 802 rfl) l0 ?_
        refine ev_iload_n (mm 803 rfl) l3 ?_
        refine ev_iconst (mm 804 rfl) cI_4 ?_
        refine ev_iadd (mm 805 rfl) ?_
        obtain ⟨v501, e502, h⟩ := bind_so h
        refine ev_xload rfl (mm 806 rfl) e502 ?_
        refine ev_aload_nX (mm 807 rfl) l0 ?_
        refine ev_iload_n (mm 808 rfl) l3 ?_
        refine ev_iconst (mm 809 rfl) cI_5 ?_
        refine ev_iadd (mm 810 rfl) ?_
        obtain ⟨v503, e504, h⟩ := bind_so h
        refine ev_xload rfl (mm 811 rfl) e504 ?_
        obtain ⟨_, e523, h⟩ := bind_so h
        obtain ⟨p505, e506, h⟩ := bind_so h
        refine ev_callV_J [.int (v495), .int (v497), .int (v499), .int (v501), .int (v503)] (mm 812 rfl) rfl rfl (Nat.le_of_ble_eq_true rfl) (s_ob_of e523) (f98_ok e506 (d + 122)) ?_
        refine ev_aload_nR (mm 813 rfl) l2 ?_
        refine ev_aload_nX (mm 814 rfl) l0 ?_
        refine ev_iload_n (mm 815 rfl) l3 ?_
        refine ev_iconst (mm 816 rfl) cI_1 ?_
        refine ev_iadd (mm 817 rfl) ?_
        obtain ⟨v507, e508, h⟩ := bind_so h
        refine ev_xload rfl (mm 818 rfl) e508 ?_
        refine ev_aload_nX (mm 819 rfl) l0 ?_
        refine ev_iload_n (mm 820 rfl) l3 ?_
        refine ev_iconst (mm 821 rfl) cI_2 ?_
        refine ev_iadd (mm 822 rfl) ?_
        obtain ⟨v509, e510, h⟩ := bind_so h
        refine ev_xload rfl (mm 823 rfl) e510 ?_
        refine ev_aload_nX (mm 824 rfl) l0 ?_
        refine ev_iload_n (mm 825 rfl) l3 ?_
        refine ev_iconst (mm 826 rfl) cI_3 ?_
        refine ev_iadd (mm 827 rfl) ?_
        obtain ⟨v511, e512, h⟩ := bind_so h
        refine ev_xload rfl (mm 828 rfl) e512 ?_
        refine ev_aload_nX (mm 829 rfl) l0 ?_
        refine ev_iload_n (mm 830 rfl) l3 ?_
        refine ev_iconst (mm 831 rfl) cI_4 ?_
        refine ev_iadd (mm 832 rfl) ?_
        obtain ⟨v513, e514, h⟩ := bind_so h
        refine ev_xload rfl (mm 833 rfl) e514 ?_
        refine ev_aload_nX (mm 834 rfl) l0 ?_
        refine ev_iload_n (mm 835 rfl) l3 ?_
        refine ev_iconst (mm 836 rfl) cI_5 ?_
        refine ev_iadd (mm 837 rfl) ?_
        obtain ⟨v515, e516, h⟩ := bind_so h
        refine ev_xload rfl (mm 838 rfl) e516 ?_
        obtain ⟨_, e522, h⟩ := bind_so h
        obtain ⟨p517, e518, h⟩ := bind_so h
        refine ev_callV_J [.int (v507), .int (v509), .int (v511), .int (v513), .int (v515)] (mm 839 rfl) rfl rfl (Nat.le_of_ble_eq_true rfl) (s_ob_of e522) (f191_ok e518 (d + 121)) ?_
        refine ev_lcmp (mm 840 rfl) ?_
        rcases ite_so h with ⟨c519, h⟩ | ⟨c519, h⟩
        · refine ev_if_t 1241 (mm 841 rfl) rfl c519 ?_
          refine evs_iinc (mm 935 rfl) cI_6 l3 (by decide) (fun lv520 l3 s521 => ?_)
          have l0 := s521 _ _ l0 rfl
          have l1 := s521 _ _ l1 rfl
          have l2 := s521 _ _ l2 rfl
          refine ev_goto 18 (mm 936 rfl) rfl ?_
          exact ih l0 l1 l2 l3 h
        · refine ev_if_f 1241 (mm 841 rfl) rfl c519 ?_
          refine ev_iconst (mm 842 rfl) cI_0 ?_
          exact ev_zreturn (mm 843 rfl) h
      rcases ite_so h with ⟨c524, h⟩ | ⟨c524, h⟩
      · refine ev_tsw (off := 1099) 1132 25 (mm 21 rfl) c524 rfl rfl ?_
        refine ev_aload_nR (mm 844 rfl) l1 ?_
        refine ev_aload_nX (mm 845 rfl) l0 ?_
        refine ev_iload_n (mm 846 rfl) l3 ?_
        refine ev_iconst (mm 847 rfl) cI_1 ?_
        refine ev_iadd (mm 848 rfl) ?_
        obtain ⟨v525, e526, h⟩ := bind_so h
        refine ev_xload rfl (mm 849 rfl) e526 ?_
        refine ev_aload_nX (mm 850 rfl) l0 ?_
        refine ev_iload_n (mm 851 rfl) l3 ?_
        refine ev_iconst (mm 852 rfl) cI_2 ?_
        refine ev_iadd (mm 853 rfl) ?_
        obtain ⟨v527, e528, h⟩ := bind_so h
        refine ev_xload rfl (mm 854 rfl) e528 ?_
        refine ev_aload_nX (mm 855 rfl) l0 ?_
        refine ev_iload_n (mm 856 rfl) l3 ?_
        refine ev_iconst (mm 857 rfl) cI_3 ?_
        refine ev_iadd (mm 858 rfl) ?_
        obtain ⟨v529, e530, h⟩ := bind_so h
        refine ev_xload rfl (mm 859 rfl) e530 ?_
        refine ev_aload_nX (mm 860 rfl) l0 ?_
        refine ev_iload_n (mm 861 rfl) l3 ?_
        refine ev_iconst (mm 862 rfl) cI_4 ?_
        refine ev_iadd (mm 863 rfl) ?_
        obtain ⟨v531, e532, h⟩ := bind_so h
        refine ev_xload rfl (mm 864 rfl) e532 ?_
        obtain ⟨_, e549, h⟩ := bind_so h
        obtain ⟨p533, e534, h⟩ := bind_so h
        refine ev_callV_I [.int (v525), .int (v527), .int (v529), .int (v531)] (mm 865 rfl) rfl rfl (Nat.le_of_ble_eq_true rfl) (s_ob_of e549) (f99_ok e534 (d + 126)) ?_
        refine ev_aload_nR (mm 866 rfl) l2 ?_
        refine ev_aload_nX (mm 867 rfl) l0 ?_
        refine ev_iload_n (mm 868 rfl) l3 ?_
        refine ev_iconst (mm 869 rfl) cI_1 ?_
        refine ev_iadd (mm 870 rfl) ?_
        obtain ⟨v535, e536, h⟩ := bind_so h
        refine ev_xload rfl (mm 871 rfl) e536 ?_
        refine ev_aload_nX (mm 872 rfl) l0 ?_
        refine ev_iload_n (mm 873 rfl) l3 ?_
        refine ev_iconst (mm 874 rfl) cI_2 ?_
        refine ev_iadd (mm 875 rfl) ?_
        obtain ⟨v537, e538, h⟩ := bind_so h
        refine ev_xload rfl (mm 876 rfl) e538 ?_
        refine ev_aload_nX (mm 877 rfl) l0 ?_
        refine ev_iload_n (mm 878 rfl) l3 ?_
        refine ev_iconst (mm 879 rfl) cI_3 ?_
        refine ev_iadd (mm 880 rfl) ?_
        obtain ⟨v539, e540, h⟩ := bind_so h
        refine ev_xload rfl (mm 881 rfl) e540 ?_
        refine ev_aload_nX (mm 882 rfl) l0 ?_
        refine ev_iload_n (mm 883 rfl) l3 ?_
        refine ev_iconst (mm 884 rfl) cI_4 ?_
        refine ev_iadd (mm 885 rfl) ?_
        obtain ⟨v541, e542, h⟩ := bind_so h
        refine ev_xload rfl (mm 886 rfl) e542 ?_
        obtain ⟨_, e548, h⟩ := bind_so h
        obtain ⟨p543, e544, h⟩ := bind_so h
        refine ev_callV_I [.int (v535), .int (v537), .int (v539), .int (v541)] (mm 887 rfl) rfl rfl (Nat.le_of_ble_eq_true rfl) (s_ob_of e548) (f192_ok e544 (d + 126)) ?_
        rcases ite_so h with ⟨c545, h⟩ | ⟨c545, h⟩
        · refine ev_ic_t 1241 (mm 888 rfl) rfl c545 ?_
          refine evs_iinc (mm 935 rfl) cI_6 l3 (by decide) (fun lv546 l3 s547 => ?_)
          have l0 := s547 _ _ l0 rfl
          have l1 := s547 _ _ l1 rfl
          have l2 := s547 _ _ l2 rfl
          refine ev_goto 18 (mm 936 rfl) rfl ?_
          exact ih l0 l1 l2 l3 h
        · refine ev_ic_f 1241 (mm 888 rfl) rfl c545 ?_
          refine ev_iconst (mm 889 rfl) cI_0 ?_
          exact ev_zreturn (mm 890 rfl) h
      rcases ite_so h with ⟨c550, h⟩ | ⟨c550, h⟩
      · refine ev_tsw (off := 1152) 1185 26 (mm 21 rfl) c550 rfl rfl ?_
        refine ev_aload_nR (mm 891 rfl) l1 ?_
        refine ev_aload_nX (mm 892 rfl) l0 ?_
        refine ev_iload_n (mm 893 rfl) l3 ?_
        refine ev_iconst (mm 894 rfl) cI_1 ?_
        refine ev_iadd (mm 895 rfl) ?_
        obtain ⟨v551, e552, h⟩ := bind_so h
        refine ev_xload rfl (mm 896 rfl) e552 ?_
        refine ev_aload_nX (mm 897 rfl) l0 ?_
        refine ev_iload_n (mm 898 rfl) l3 ?_
        refine ev_iconst (mm 899 rfl) cI_2 ?_
        refine ev_iadd (mm 900 rfl) ?_
        obtain ⟨v553, e554, h⟩ := bind_so h
        refine ev_xload rfl (mm 901 rfl) e554 ?_
        obtain ⟨_, e567, h⟩ := bind_so h
        obtain ⟨p555, e556, h⟩ := bind_so h
        refine ev_callV_I [.int (v551), .int (v553)] (mm 902 rfl) rfl rfl (Nat.le_of_ble_eq_true rfl) (s_ob_of e567) (f100_ok e556 (d + 126)) ?_
        refine ev_aload_nR (mm 903 rfl) l2 ?_
        refine ev_aload_nX (mm 904 rfl) l0 ?_
        refine ev_iload_n (mm 905 rfl) l3 ?_
        refine ev_iconst (mm 906 rfl) cI_1 ?_
        refine ev_iadd (mm 907 rfl) ?_
        obtain ⟨v557, e558, h⟩ := bind_so h
        refine ev_xload rfl (mm 908 rfl) e558 ?_
        refine ev_aload_nX (mm 909 rfl) l0 ?_
        refine ev_iload_n (mm 910 rfl) l3 ?_
        refine ev_iconst (mm 911 rfl) cI_2 ?_
        refine ev_iadd (mm 912 rfl) ?_
        obtain ⟨v559, e560, h⟩ := bind_so h
        refine ev_xload rfl (mm 913 rfl) e560 ?_
        obtain ⟨_, e566, h⟩ := bind_so h
        obtain ⟨p561, e562, h⟩ := bind_so h
        refine ev_callV_I [.int (v557), .int (v559)] (mm 914 rfl) rfl rfl (Nat.le_of_ble_eq_true rfl) (s_ob_of e566) (f195_ok e562 (d + 126)) ?_
        rcases ite_so h with ⟨c563, h⟩ | ⟨c563, h⟩
        · refine ev_ic_t 1241 (mm 915 rfl) rfl c563 ?_
          refine evs_iinc (mm 935 rfl) cI_6 l3 (by decide) (fun lv564 l3 s565 => ?_)
          have l0 := s565 _ _ l0 rfl
          have l1 := s565 _ _ l1 rfl
          have l2 := s565 _ _ l2 rfl
          refine ev_goto 18 (mm 936 rfl) rfl ?_
          exact ih l0 l1 l2 l3 h
        · refine ev_ic_f 1241 (mm 915 rfl) rfl c563 ?_
          refine ev_iconst (mm 916 rfl) cI_0 ?_
          exact ev_zreturn (mm 917 rfl) h
      rcases ite_so h with ⟨c568, h⟩ | ⟨c568, h⟩
      · refine ev_tsw (off := 1185) 1218 27 (mm 21 rfl) c568 rfl rfl ?_
        refine ev_aload_nR (mm 918 rfl) l1 ?_
        refine ev_aload_nX (mm 919 rfl) l0 ?_
        refine ev_iload_n (mm 920 rfl) l3 ?_
        refine ev_iconst (mm 921 rfl) cI_1 ?_
        refine ev_iadd (mm 922 rfl) ?_
        obtain ⟨v569, e570, h⟩ := bind_so h
        refine ev_xload rfl (mm 923 rfl) e570 ?_
        obtain ⟨_, e581, h⟩ := bind_so h
        obtain ⟨p571, e572, h⟩ := bind_so h
        refine ev_callV_I [.int (v569)] (mm 924 rfl) rfl rfl (Nat.le_of_ble_eq_true rfl) (s_ob_of e581) (f101_ok e572 (d + 126)) ?_
        refine ev_aload_nR (mm 925 rfl) l2 ?_
        refine ev_aload_nX (mm 926 rfl) l0 ?_
        refine ev_iload_n (mm 927 rfl) l3 ?_
        refine ev_iconst (mm 928 rfl) cI_1 ?_
        refine ev_iadd (mm 929 rfl) ?_
        obtain ⟨v573, e574, h⟩ := bind_so h
        refine ev_xload rfl (mm 930 rfl) e574 ?_
        obtain ⟨_, e580, h⟩ := bind_so h
        obtain ⟨p575, e576, h⟩ := bind_so h
        refine ev_callV_I [.int (v573)] (mm 931 rfl) rfl rfl (Nat.le_of_ble_eq_true rfl) (s_ob_of e580) (f197_ok e576 (d + 126)) ?_
        rcases ite_so h with ⟨c577, h⟩ | ⟨c577, h⟩
        · refine ev_ic_t 1241 (mm 932 rfl) rfl c577 ?_
          refine evs_iinc (mm 935 rfl) cI_6 l3 (by decide) (fun lv578 l3 s579 => ?_)
          have l0 := s579 _ _ l0 rfl
          have l1 := s579 _ _ l1 rfl
          have l2 := s579 _ _ l2 rfl
          refine ev_goto 18 (mm 936 rfl) rfl ?_
          exact ih l0 l1 l2 l3 h
        · refine ev_ic_f 1241 (mm 932 rfl) rfl c577 ?_
          refine ev_iconst (mm 933 rfl) cI_0 ?_
          exact ev_zreturn (mm 934 rfl) h
      refine ev_tswD 1241 (mm 21 rfl) rfl (tsw_out [0, 1, 2, 3, 4, 5, 6, 7, 8, 9, 10, 11, 12, 13, 14, 15, 16, 17, 18, 19, 20, 21, 22, 23, 24, 25, 26, 27] rfl rfl (by simp [c18, c32, c54, c72, c94, c112, c138, c164, c186, c204, c234, c252, c266, c276, c298, c320, c342, c360, c378, c408, c426, c440, c458, c472, c494, c524, c550, c568])) ?_
      refine evs_iinc (mm 935 rfl) cI_6 l3 (by decide) (fun lv582 l3 s583 => ?_)
      have l0 := s583 _ _ l0 rfl
      have l1 := s583 _ _ l1 rfl
      have l2 := s583 _ _ l2 rfl
      refine ev_goto 18 (mm 936 rfl) rfl ?_
      exact ih l0 l1 l2 l3 h
/-- PupilCoinLaw.law([I)Z -/
def f203 (L : Nat) (xs : Nat → Int32) (x0 : Unit) (M : vm_M) : Option (Int32 × vm_M) :=
  (s_no M 10).bind fun M1 =>
  (f73 (vm_n M) M1).bind fun p3 =>
  (s_no p3 11).bind fun M7 =>
  (f111 (vm_n p3) M7).bind fun p9 =>
  f203_l18 L xs x0 (vm_n M) (vm_n p3)
  
    100000 0 p9
set_option maxRecDepth 100000 in
theorem f203_ok {L : Nat} {xs : Nat → Int32} {d : Nat} {x0 : Unit} {M : vm_M} {r : Int32 × vm_M} (h : f203 L xs x0 M = some r) : Ev L xs (vm_Cl (d + 129)) vp_203 12 4 false (some (.boolean)) (rI r) 0 (lv_args 0 [.ref vm_scr]) [] M := by
  have l0 : (0, .ref vm_scr) ∈ lv_args 0 [.ref vm_scr] := List.Mem.head _
  unfold f203 at h
  obtain ⟨M1, e2, h⟩ := bind_so h
  refine ev_new (mm 0 rfl) e2 ?_
  refine ev_dupR (mm 1 rfl) ?_
  obtain ⟨p3, e4, h⟩ := bind_so h
  refine ev_callI_V [] (mm 2 rfl) (by decide) rfl rfl (Nat.le_of_ble_eq_true rfl) (f73_ok e4 (d + 125)) ?_
  refine evs_astore_nR (mm 3 rfl) (by decide) (fun lv5 l1 s6 => ?_)
  have l0 := s6 _ _ l0 rfl
  obtain ⟨M7, e8, h⟩ := bind_so h
  refine ev_new (mm 4 rfl) e8 ?_
  refine ev_dupR (mm 5 rfl) ?_
  obtain ⟨p9, e10, h⟩ := bind_so h
  refine ev_callI_V [] (mm 6 rfl) (by decide) rfl rfl (Nat.le_of_ble_eq_true rfl) (f111_ok e10 (d + 128)) ?_
  refine evs_astore_nR (mm 7 rfl) (by decide) (fun lv11 l2 s12 => ?_)
  have l0 := s12 _ _ l0 rfl
  have l1 := s12 _ _ l1 rfl
  refine ev_iconst (mm 8 rfl) cI_0 ?_
  refine evs_istore_n (mm 9 rfl) (by decide) (fun lv13 l3 s14 => ?_)
  have l0 := s14 _ _ l0 rfl
  have l1 := s14 _ _ l1 rfl
  have l2 := s14 _ _ l2 rfl
  refine f203_l18_ok 100000 l0 l1 l2 l3 h
