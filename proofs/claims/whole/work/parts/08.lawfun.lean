def fL_law_J813 (N0 : Nat) (xs : Nat → Int32) (h : XH) (x1 : Nat) (x2 : Nat) (x3 : Int32) (s0 : Int32) (s1 : Nat) (s2 : Int32) (s3 : Bool) : Option ((XH × Int32) ⊕ XH) :=
(xco h s1 9).bind fun _ =>
(fX9_bestPeriod h s1 s2 s3).bind fun v312 =>
if s0 = v312.1 then
some (.inl (v312.2, (x3 + (3 : Int32))))
else
none
def fL_law_J791 (N0 : Nat) (xs : Nat → Int32) (h : XH) (x1 : Nat) (x2 : Nat) (x3 : Int32) (s0 : Nat) (s1 : Int32) (s2 : Bool) : Option ((XH × Int32) ⊕ XH) :=
(xco h s0 8).bind fun _ =>
(fX8_bestPeriod h s0 s1 s2).bind fun v305 =>
(xsc N0 xs (x3 + (1 : Int32))).bind fun v307 =>
(xsc N0 xs (x3 + (2 : Int32))).bind fun v309 =>
if v309 = 0 then
fL_law_J813 N0 xs v305.2 x1 x2 x3 v305.1 x2 v307 false
else
fL_law_J813 N0 xs v305.2 x1 x2 x3 v305.1 x2 v307 true
def fL_law_b18 (N0 : Nat) (xs : Nat → Int32) (x1 : Nat) (x2 : Nat) (h : XH) (x3 : Int32) : Option ((XH × Int32) ⊕ XH) :=
if ((Int32.ofNat N0) - (3 : Int32)) < x3 then
some (.inr h)
else
(xsc N0 xs x3).bind fun v9 =>
if (v9 &&& (63 : Int32)) = 0 then
(xsc N0 xs (x3 + (1 : Int32))).bind fun v44 =>
(xco h x1 8).bind fun _ =>
(fX8_type h x1 v44).bind fun v47 =>
(xsc N0 xs (x3 + (1 : Int32))).bind fun v49 =>
(xco v47.2 x2 9).bind fun _ =>
(fX9_type v47.2 x2 v49).bind fun v52 =>
if v47.1 = v52.1 then
some (.inl (v52.2, (x3 + (3 : Int32))))
else
none
else
if (v9 &&& (63 : Int32)) = 1 then
(xco h x1 8).bind fun _ =>
(fX8_clearText h x1).bind fun v55 =>
(xco v55.2 x2 9).bind fun _ =>
(fX9_clearText v55.2 x2).bind fun v58 =>
if v55.1 = v58.1 then
some (.inl (v58.2, (x3 + (3 : Int32))))
else
none
else
if (v9 &&& (63 : Int32)) = 2 then
(xco h x1 8).bind fun _ =>
(fX8_load h x1).bind fun v61 =>
(xco v61.2 x2 9).bind fun _ =>
(fX9_load v61.2 x2).bind fun v64 =>
if v61.1 = v64.1 then
some (.inl (v64.2, (x3 + (3 : Int32))))
else
none
else
if (v9 &&& (63 : Int32)) = 3 then
(xco h x1 8).bind fun _ =>
(fX8_faultKind h x1).bind fun v67 =>
(xco h x2 9).bind fun _ =>
(fX9_faultKind h x2).bind fun v70 =>
if v67 = v70 then
some (.inl (h, (x3 + (3 : Int32))))
else
none
else
if (v9 &&& (63 : Int32)) = 4 then
(xsc N0 xs (x3 + (1 : Int32))).bind fun v72 =>
(xsc N0 xs (x3 + (2 : Int32))).bind fun v74 =>
(xco h x1 8).bind fun _ =>
(fX8_setMark h x1 v72 v74).bind fun v77 =>
(xsc N0 xs (x3 + (1 : Int32))).bind fun v79 =>
(xsc N0 xs (x3 + (2 : Int32))).bind fun v81 =>
(xco v77.2 x2 9).bind fun _ =>
(fX9_setMark v77.2 x2 v79 v81).bind fun v84 =>
if v77.1 = v84.1 then
some (.inl (v84.2, (x3 + (3 : Int32))))
else
none
else
if (v9 &&& (63 : Int32)) = 5 then
(xsc N0 xs (x3 + (1 : Int32))).bind fun v86 =>
(xco h x1 8).bind fun _ =>
(fX8_setStart h x1 v86).bind fun v89 =>
(xsc N0 xs (x3 + (1 : Int32))).bind fun v91 =>
(xco v89.2 x2 9).bind fun _ =>
(fX9_setStart v89.2 x2 v91).bind fun v94 =>
if v89.1 = v94.1 then
some (.inl (v94.2, (x3 + (3 : Int32))))
else
none
else
if (v9 &&& (63 : Int32)) = 6 then
(xsc N0 xs (x3 + (1 : Int32))).bind fun v96 =>
(xsc N0 xs (x3 + (2 : Int32))).bind fun v98 =>
(xco h x1 8).bind fun _ =>
(fX8_setSpeed h x1 v96 v98).bind fun v101 =>
(xsc N0 xs (x3 + (1 : Int32))).bind fun v103 =>
(xsc N0 xs (x3 + (2 : Int32))).bind fun v105 =>
(xco v101.2 x2 9).bind fun _ =>
(fX9_setSpeed v101.2 x2 v103 v105).bind fun v108 =>
if v101.1 = v108.1 then
some (.inl (v108.2, (x3 + (3 : Int32))))
else
none
else
if (v9 &&& (63 : Int32)) = 7 then
(xsc N0 xs (x3 + (1 : Int32))).bind fun v110 =>
(xco h x1 8).bind fun _ =>
(fX8_dropChange h x1 v110).bind fun v113 =>
(xsc N0 xs (x3 + (1 : Int32))).bind fun v115 =>
(xco v113.2 x2 9).bind fun _ =>
(fX9_dropChange v113.2 x2 v115).bind fun v118 =>
if v113.1 = v118.1 then
some (.inl (v118.2, (x3 + (3 : Int32))))
else
none
else
if (v9 &&& (63 : Int32)) = 8 then
(xsc N0 xs (x3 + (1 : Int32))).bind fun v120 =>
(xsc N0 xs (x3 + (2 : Int32))).bind fun v122 =>
(xco h x1 8).bind fun _ =>
(fX8_markAt h x1 v120 v122).bind fun v125 =>
(xsc N0 xs (x3 + (1 : Int32))).bind fun v127 =>
(xsc N0 xs (x3 + (2 : Int32))).bind fun v129 =>
(xco h x2 9).bind fun _ =>
(fX9_markAt h x2 v127 v129).bind fun v132 =>
if v125 = v132.1 then
some (.inl (v132.2, (x3 + (3 : Int32))))
else
none
else
if (v9 &&& (63 : Int32)) = 9 then
(xsc N0 xs (x3 + (1 : Int32))).bind fun v134 =>
(xco h x1 8).bind fun _ =>
(fX8_turn h x1 v134).bind fun v137 =>
(xsc N0 xs (x3 + (1 : Int32))).bind fun v139 =>
(xco h x2 9).bind fun _ =>
(fX9_turn h x2 v139).bind fun v142 =>
if v137 = v142.1 then
some (.inl (v142.2, (x3 + (3 : Int32))))
else
none
else
if (v9 &&& (63 : Int32)) = 10 then
(xsc N0 xs (x3 + (1 : Int32))).bind fun v144 =>
(xsc N0 xs (x3 + (2 : Int32))).bind fun v146 =>
(xco h x1 8).bind fun _ =>
(fX8_setFlash h x1 v144 v146).bind fun v149 =>
(xsc N0 xs (x3 + (1 : Int32))).bind fun v151 =>
(xsc N0 xs (x3 + (2 : Int32))).bind fun v153 =>
(xco v149.2 x2 9).bind fun _ =>
(fX9_setFlash v149.2 x2 v151 v153).bind fun v156 =>
if v149.1 = v156.1 then
some (.inl (v156.2, (x3 + (3 : Int32))))
else
none
else
if (v9 &&& (63 : Int32)) = 11 then
(xsc N0 xs (x3 + (1 : Int32))).bind fun v158 =>
(xsc N0 xs (x3 + (2 : Int32))).bind fun v160 =>
(xco h x1 8).bind fun _ =>
(fX8_flash h x1 v158 v160).bind fun v163 =>
(xsc N0 xs (x3 + (1 : Int32))).bind fun v165 =>
(xsc N0 xs (x3 + (2 : Int32))).bind fun v167 =>
(xco h x2 9).bind fun _ =>
(fX9_flash h x2 v165 v167).bind fun v170 =>
if v163 = v170.1 then
some (.inl (v170.2, (x3 + (3 : Int32))))
else
none
else
if (v9 &&& (63 : Int32)) = 12 then
(xsc N0 xs (x3 + (1 : Int32))).bind fun v172 =>
(xsc N0 xs (x3 + (2 : Int32))).bind fun v174 =>
(xco h x1 8).bind fun _ =>
(fX8_step h x1 v172 v174).bind fun v177 =>
(xsc N0 xs (x3 + (1 : Int32))).bind fun v179 =>
(xsc N0 xs (x3 + (2 : Int32))).bind fun v181 =>
(xco h x2 9).bind fun _ =>
(fX9_step h x2 v179 v181).bind fun v184 =>
if v177 = v184.1 then
some (.inl (v184.2, (x3 + (3 : Int32))))
else
none
else
if (v9 &&& (63 : Int32)) = 13 then
(xsc N0 xs (x3 + (1 : Int32))).bind fun v186 =>
(xco h x1 8).bind fun _ =>
(fX8_seems h x1 v186).bind fun v189 =>
(xsc N0 xs (x3 + (1 : Int32))).bind fun v191 =>
(xco h x2 9).bind fun _ =>
(fX9_seems h x2 v191).bind fun v194 =>
if v189 = v194.1 then
some (.inl (v194.2, (x3 + (3 : Int32))))
else
none
else
if (v9 &&& (63 : Int32)) = 14 then
(xsc N0 xs (x3 + (1 : Int32))).bind fun v196 =>
(xsc N0 xs (x3 + (2 : Int32))).bind fun v198 =>
(xco h x1 8).bind fun _ =>
(fX8_stillPeriod h x1 v196 v198).bind fun v201 =>
(xsc N0 xs (x3 + (1 : Int32))).bind fun v203 =>
(xsc N0 xs (x3 + (2 : Int32))).bind fun v205 =>
(xco h x2 9).bind fun _ =>
(fX9_stillPeriod h x2 v203 v205).bind fun v208 =>
if v201 = v208 then
some (.inl (h, (x3 + (3 : Int32))))
else
none
else
if (v9 &&& (63 : Int32)) = 15 then
(xsc N0 xs (x3 + (1 : Int32))).bind fun v210 =>
(xsc N0 xs (x3 + (2 : Int32))).bind fun v212 =>
(xco h x1 8).bind fun _ =>
(fX8_read h x1 v210 v212).bind fun v215 =>
(xsc N0 xs (x3 + (1 : Int32))).bind fun v217 =>
(xsc N0 xs (x3 + (2 : Int32))).bind fun v219 =>
(xco v215.2 x2 9).bind fun _ =>
(fX9_read v215.2 x2 v217 v219).bind fun v222 =>
if v215.1 = v222.1 then
some (.inl (v222.2, (x3 + (3 : Int32))))
else
none
else
if (v9 &&& (63 : Int32)) = 16 then
(xsc N0 xs (x3 + (1 : Int32))).bind fun v224 =>
(xco h x1 8).bind fun _ =>
(fX8_look h x1 v224).bind fun v227 =>
(xsc N0 xs (x3 + (1 : Int32))).bind fun v229 =>
(xco v227.2 x2 9).bind fun _ =>
(fX9_look v227.2 x2 v229).bind fun v232 =>
if v227.1 = v232.1 then
some (.inl (v232.2, (x3 + (3 : Int32))))
else
none
else
if (v9 &&& (63 : Int32)) = 17 then
(xsc N0 xs (x3 + (1 : Int32))).bind fun v234 =>
(xco h x1 8).bind fun _ =>
(fX8_dropReading h x1 v234).bind fun v237 =>
(xsc N0 xs (x3 + (1 : Int32))).bind fun v239 =>
(xco v237.2 x2 9).bind fun _ =>
(fX9_dropReading v237.2 x2 v239).bind fun v242 =>
if v237.1 = v242.1 then
some (.inl (v242.2, (x3 + (3 : Int32))))
else
none
else
if (v9 &&& (63 : Int32)) = 18 then
(xsc N0 xs (x3 + (1 : Int32))).bind fun v244 =>
(xsc N0 xs (x3 + (2 : Int32))).bind fun v246 =>
(xco h x1 8).bind fun _ =>
(fX8_reading h x1 v244 v246).bind fun v249 =>
(xsc N0 xs (x3 + (1 : Int32))).bind fun v251 =>
(xsc N0 xs (x3 + (2 : Int32))).bind fun v253 =>
(xco v249.2 x2 9).bind fun _ =>
(fX9_reading v249.2 x2 v251 v253).bind fun v256 =>
if v249.1 = v256.1 then
some (.inl (v256.2, (x3 + (3 : Int32))))
else
none
else
if (v9 &&& (63 : Int32)) = 19 then
(xsc N0 xs (x3 + (1 : Int32))).bind fun v258 =>
(xco h x1 8).bind fun _ =>
(fX8_setLimit h x1 v258).bind fun v261 =>
(xsc N0 xs (x3 + (1 : Int32))).bind fun v263 =>
(xco v261.2 x2 9).bind fun _ =>
(fX9_setLimit v261.2 x2 v263).bind fun v266 =>
if v261.1 = v266.1 then
some (.inl (v266.2, (x3 + (3 : Int32))))
else
none
else
if (v9 &&& (63 : Int32)) = 20 then
(xco h x1 8).bind fun _ =>
(fX8_candidates h x1).bind fun v269 =>
(xco v269.2 x2 9).bind fun _ =>
(fX9_candidates v269.2 x2).bind fun v272 =>
if v269.1 = v272.1 then
some (.inl (v272.2, (x3 + (3 : Int32))))
else
none
else
if (v9 &&& (63 : Int32)) = 21 then
(xsc N0 xs (x3 + (1 : Int32))).bind fun v274 =>
(xco h x1 8).bind fun _ =>
(fX8_candidate h x1 v274).bind fun v277 =>
(xsc N0 xs (x3 + (1 : Int32))).bind fun v279 =>
(xco v277.2 x2 9).bind fun _ =>
(fX9_candidate v277.2 x2 v279).bind fun v282 =>
if v277.1 = v282.1 then
some (.inl (v282.2, (x3 + (3 : Int32))))
else
none
else
if (v9 &&& (63 : Int32)) = 22 then
(xsc N0 xs (x3 + (1 : Int32))).bind fun v284 =>
(xco h x1 8).bind fun _ =>
(fX8_nearest h x1 v284).bind fun v287 =>
(xsc N0 xs (x3 + (1 : Int32))).bind fun v289 =>
(xco v287.2 x2 9).bind fun _ =>
(fX9_nearest v287.2 x2 v289).bind fun v292 =>
if v287.1 = v292.1 then
some (.inl (v292.2, (x3 + (3 : Int32))))
else
none
else
if (v9 &&& (63 : Int32)) = 23 then
(xco h x1 8).bind fun _ =>
(fX8_odd h x1).bind fun v295 =>
(xco v295.2 x2 9).bind fun _ =>
(fX9_odd v295.2 x2).bind fun v298 =>
if v295.1 = v298.1 then
some (.inl (v298.2, (x3 + (3 : Int32))))
else
none
else
if (v9 &&& (63 : Int32)) = 24 then
(xsc N0 xs (x3 + (1 : Int32))).bind fun v300 =>
(xsc N0 xs (x3 + (2 : Int32))).bind fun v302 =>
if v302 = 0 then
fL_law_J791 N0 xs h x1 x2 x3 x1 v300 false
else
fL_law_J791 N0 xs h x1 x2 x3 x1 v300 true
else
if (v9 &&& (63 : Int32)) = 25 then
(xsc N0 xs (x3 + (1 : Int32))).bind fun v314 =>
(xsc N0 xs (x3 + (2 : Int32))).bind fun v316 =>
(xco h x1 8).bind fun _ =>
(fX8_setDisc h x1 v314 v316).bind fun v319 =>
(xsc N0 xs (x3 + (1 : Int32))).bind fun v321 =>
(xsc N0 xs (x3 + (2 : Int32))).bind fun v323 =>
(xco v319.2 x2 9).bind fun _ =>
(fX9_setDisc v319.2 x2 v321 v323).bind fun v326 =>
if v319.1 = v326.1 then
some (.inl (v326.2, (x3 + (3 : Int32))))
else
none
else
if (v9 &&& (63 : Int32)) = 26 then
(xsc N0 xs (x3 + (1 : Int32))).bind fun v328 =>
(xsc N0 xs (x3 + (2 : Int32))).bind fun v330 =>
(xco h x1 8).bind fun _ =>
(fX8_turnDisc h x1 v328 v330).bind fun v333 =>
(xsc N0 xs (x3 + (1 : Int32))).bind fun v335 =>
(xsc N0 xs (x3 + (2 : Int32))).bind fun v337 =>
(xco v333.2 x2 9).bind fun _ =>
(fX9_turnDisc v333.2 x2 v335 v337).bind fun v340 =>
if v333.1 = v340.1 then
some (.inl (v340.2, (x3 + (3 : Int32))))
else
none
else
if (v9 &&& (63 : Int32)) = 27 then
(xsc N0 xs (x3 + (1 : Int32))).bind fun v342 =>
(xco h x1 8).bind fun _ =>
(fX8_isSeen h x1 v342).bind fun v345 =>
(xsc N0 xs (x3 + (1 : Int32))).bind fun v347 =>
(xco h x2 9).bind fun _ =>
(fX9_isSeen h x2 v347).bind fun v350 =>
if v345 = v350 then
some (.inl (h, (x3 + (3 : Int32))))
else
none
else
if (v9 &&& (63 : Int32)) = 28 then
(xsc N0 xs (x3 + (1 : Int32))).bind fun v352 =>
(xsc N0 xs (x3 + (2 : Int32))).bind fun v354 =>
(xco h x1 8).bind fun _ =>
(fX8_opening h x1 v352 v354).bind fun v357 =>
(xsc N0 xs (x3 + (1 : Int32))).bind fun v359 =>
(xsc N0 xs (x3 + (2 : Int32))).bind fun v361 =>
(xco h x2 9).bind fun _ =>
(fX9_opening h x2 v359 v361).bind fun v364 =>
if v357 = v364.1 then
some (.inl (v364.2, (x3 + (3 : Int32))))
else
none
else
if (v9 &&& (63 : Int32)) = 29 then
(xsc N0 xs (x3 + (1 : Int32))).bind fun v366 =>
(xsc N0 xs (x3 + (2 : Int32))).bind fun v368 =>
(xco h x1 8).bind fun _ =>
(fX8_smear h x1 v366 v368).bind fun v371 =>
(xsc N0 xs (x3 + (1 : Int32))).bind fun v373 =>
(xsc N0 xs (x3 + (2 : Int32))).bind fun v375 =>
(xco h x2 9).bind fun _ =>
(fX9_smear h x2 v373 v375).bind fun v378 =>
if v371 = v378.1 then
some (.inl (v378.2, (x3 + (3 : Int32))))
else
none
else
if (v9 &&& (63 : Int32)) = 30 then
(xco h x1 8).bind fun _ =>
(fX8_undo h x1).bind fun v381 =>
(xco v381.2 x2 9).bind fun _ =>
(fX9_undo v381.2 x2).bind fun v384 =>
if v381.1 = v384.1 then
some (.inl (v384.2, (x3 + (3 : Int32))))
else
none
else
if (v9 &&& (63 : Int32)) = 31 then
(xsc N0 xs (x3 + (1 : Int32))).bind fun v386 =>
(xco h x1 8).bind fun _ =>
(fX8_count h x1 v386).bind fun v389 =>
(xsc N0 xs (x3 + (1 : Int32))).bind fun v391 =>
(xco h x2 9).bind fun _ =>
(fX9_count h x2 v391).bind fun v394 =>
if v389 = v394.1 then
some (.inl (v394.2, (x3 + (3 : Int32))))
else
none
else
if (v9 &&& (63 : Int32)) = 32 then
(xco h x1 8).bind fun _ =>
(fX8_digest h x1).bind fun v397 =>
(xco v397.2 x2 9).bind fun _ =>
(fX9_digest v397.2 x2).bind fun v400 =>
if (lg_cmp v397.1 v400.1) = 0 then
some (.inl (v400.2, (x3 + (3 : Int32))))
else
none
else
some (.inl (h, (x3 + (3 : Int32))))
def fL_law_B18 (N0 : Nat) (xs : Nat → Int32) (x1 : Nat) (x2 : Nat) (s : (XH × Int32)) : Option ((XH × Int32) ⊕ XH) := fL_law_b18 N0 xs x1 x2 s.1 s.2
def fL_law (N0 : Nat) (xs : Nat → Int32) (h : XH) (n : Nat) : Option Unit :=
(xnw h n (.inl (8, [.null, .null, .null, .null, .null]))).bind fun h1 =>
(fX8_init h1 (n + 1) n).bind fun h3 =>
(xnw h3 (n + 102) (.inl (9, [.null, .int 0, .null, .int 0, .null, .int 0, .int 0, .int 0, .int 0, .int 0, .null, .null, .int 0, .null, .int 0, .int 0, .long 0]))).bind fun h5 =>
(fX9_init h5 (n + 103) (n + 102)).bind fun h7 =>
(xloop (fL_law_B18 N0 xs n (n + 102)) 5000 (h7, (0 : Int32))).bind fun e402 =>
some ()
