def f_L_body (L : Nat) (xs : Nat → Int32) : (Int32 × Mem) → Option ((Int32 × Mem) ⊕ Mem)
  | (i0, m0) => (if ((nI L) - 5) < i0 then some (.inr m0) else gIn i0 L <| nm (xs i0.toNatClampNeg) fun x3 => nm (x3 &&& 31) fun x4 => (if x4 = 0 then gIn (i0 + 1) L <| nm (xs (i0 + 1).toNatClampNeg) fun x7 => gIn (i0 + 2) L <| nm (xs (i0 + 2).toNatClampNeg) fun x9 => gIn (i0 + 3) L <| nm (xs (i0 + 3).toNatClampNeg) fun x11 => bnd2 (w_L_addInterpreter x7 x9 x11 m0) fun x13 m14 => gIn (i0 + 1) L <| nm (xs (i0 + 1).toNatClampNeg) fun x16 => gIn (i0 + 2) L <| nm (xs (i0 + 2).toNatClampNeg) fun x18 => gIn (i0 + 3) L <| nm (xs (i0 + 3).toNatClampNeg) fun x20 => bnd2 (f_X8_addInterpreter x16 x18 x20 m14) fun x22 m23 => bnd (f_X8_thrown m23) fun x25 => (if x25 = x13 then (if x13 = 0 then nm (lg_cmp (m23.2 170 0) x22.toInt64) fun x29 => (if x29 = 0 then nm (i0 + 5) fun x31 => some (.inl (x31, m23)) else none) else nm (i0 + 5) fun x28 => some (.inl (x28, m23))) else none) else (if x4 = 1 then gIn (i0 + 1) L <| nm (xs (i0 + 1).toNatClampNeg) fun x34 => gIn (i0 + 2) L <| nm (xs (i0 + 2).toNatClampNeg) fun x36 => gIn (i0 + 3) L <| nm (xs (i0 + 3).toNatClampNeg) fun x38 => gIn (i0 + 4) L <| nm (xs (i0 + 4).toNatClampNeg) fun x40 => bnd2 (w_L_addHearing x34 x36 x38 x40 m0) fun x42 m43 => gIn (i0 + 1) L <| nm (xs (i0 + 1).toNatClampNeg) fun x45 => gIn (i0 + 2) L <| nm (xs (i0 + 2).toNatClampNeg) fun x47 => gIn (i0 + 3) L <| nm (xs (i0 + 3).toNatClampNeg) fun x49 => gIn (i0 + 4) L <| nm (xs (i0 + 4).toNatClampNeg) fun x51 => bnd2 (f_X8_addHearing x45 x47 x49 x51 m43) fun x53 m54 => bnd (f_X8_thrown m54) fun x56 => (if x56 = x42 then (if x42 = 0 then nm (lg_cmp (m54.2 170 0) x53.toInt64) fun x60 => (if x60 = 0 then nm (i0 + 5) fun x62 => some (.inl (x62, m54)) else none) else nm (i0 + 5) fun x59 => some (.inl (x59, m54))) else none) else (if x4 = 2 then gIn (i0 + 1) L <| nm (xs (i0 + 1).toNatClampNeg) fun x65 => gIn (i0 + 2) L <| nm (xs (i0 + 2).toNatClampNeg) fun x67 => bnd2 (w_L_certify x65 x67 m0) fun x69 m70 => gIn (i0 + 1) L <| nm (xs (i0 + 1).toNatClampNeg) fun x72 => gIn (i0 + 2) L <| nm (xs (i0 + 2).toNatClampNeg) fun x74 => bnd2 (f_X8_certify x72 x74 m70) fun x76 m77 => bnd (f_X8_thrown m77) fun x79 => (if x79 = x69 then (if x69 = 0 then nm (lg_cmp (m77.2 170 0) x76.toInt64) fun x83 => (if x83 = 0 then nm (i0 + 5) fun x85 => some (.inl (x85, m77)) else none) else nm (i0 + 5) fun x82 => some (.inl (x82, m77))) else none) else (if x4 = 3 then gIn (i0 + 1) L <| nm (xs (i0 + 1).toNatClampNeg) fun x88 => gIn (i0 + 2) L <| nm (xs (i0 + 2).toNatClampNeg) fun x90 => bnd2 (w_L_set x88 x90 m0) fun x92 m93 => gIn (i0 + 1) L <| nm (xs (i0 + 1).toNatClampNeg) fun x95 => gIn (i0 + 2) L <| nm (xs (i0 + 2).toNatClampNeg) fun x97 => bnd2 (f_X8_set x95 x97 m93) fun x99 m100 => bnd (f_X8_thrown m100) fun x102 => (if x102 = x92 then (if x92 = 0 then nm (lg_cmp (m100.2 170 0) x99.toInt64) fun x106 => (if x106 = 0 then nm (i0 + 5) fun x108 => some (.inl (x108, m100)) else none) else nm (i0 + 5) fun x105 => some (.inl (x105, m100))) else none) else (if x4 = 4 then gIn (i0 + 1) L <| nm (xs (i0 + 1).toNatClampNeg) fun x111 => gIn (i0 + 2) L <| nm (xs (i0 + 2).toNatClampNeg) fun x113 => gIn (i0 + 3) L <| nm (xs (i0 + 3).toNatClampNeg) fun x115 => gIn (i0 + 4) L <| nm (xs (i0 + 4).toNatClampNeg) fun x117 => bnd2 (w_L_assign x111 x113 x115 x117 m0) fun x119 m120 => gIn (i0 + 1) L <| nm (xs (i0 + 1).toNatClampNeg) fun x122 => gIn (i0 + 2) L <| nm (xs (i0 + 2).toNatClampNeg) fun x124 => gIn (i0 + 3) L <| nm (xs (i0 + 3).toNatClampNeg) fun x126 => gIn (i0 + 4) L <| nm (xs (i0 + 4).toNatClampNeg) fun x128 => bnd2 (f_X8_assign x122 x124 x126 x128 m120) fun x130 m131 => bnd (f_X8_thrown m131) fun x133 => (if x133 = x119 then (if x119 = 0 then nm (lg_cmp (m131.2 170 0) x130.toInt64) fun x137 => (if x137 = 0 then nm (i0 + 5) fun x139 => some (.inl (x139, m131)) else none) else nm (i0 + 5) fun x136 => some (.inl (x136, m131))) else none) else (if x4 = 5 then gIn (i0 + 1) L <| nm (xs (i0 + 1).toNatClampNeg) fun x142 => bnd2 (w_L_release x142 m0) fun x144 m145 => gIn (i0 + 1) L <| nm (xs (i0 + 1).toNatClampNeg) fun x147 => bnd2 (f_X8_release x147 m145) fun x149 m150 => bnd (f_X8_thrown m150) fun x152 => (if x152 = x144 then (if x144 = 0 then nm (lg_cmp (m150.2 170 0) x149.toInt64) fun x156 => (if x156 = 0 then nm (i0 + 5) fun x158 => some (.inl (x158, m150)) else none) else nm (i0 + 5) fun x155 => some (.inl (x155, m150))) else none) else (if x4 = 6 then gIn (i0 + 1) L <| nm (xs (i0 + 1).toNatClampNeg) fun x161 => gIn (i0 + 2) L <| nm (xs (i0 + 2).toNatClampNeg) fun x163 => gIn (i0 + 3) L <| nm (xs (i0 + 3).toNatClampNeg) fun x165 => bnd2 (w_L_swap x161 x163 x165 m0) fun x167 m168 => gIn (i0 + 1) L <| nm (xs (i0 + 1).toNatClampNeg) fun x170 => gIn (i0 + 2) L <| nm (xs (i0 + 2).toNatClampNeg) fun x172 => gIn (i0 + 3) L <| nm (xs (i0 + 3).toNatClampNeg) fun x174 => bnd2 (f_X8_swap x170 x172 x174 m168) fun x176 m177 => bnd (f_X8_thrown m177) fun x179 => (if x179 = x167 then (if x167 = 0 then nm (lg_cmp (m177.2 170 0) x176.toInt64) fun x183 => (if x183 = 0 then nm (i0 + 5) fun x185 => some (.inl (x185, m177)) else none) else nm (i0 + 5) fun x182 => some (.inl (x182, m177))) else none) else (if x4 = 7 then gIn (i0 + 1) L <| nm (xs (i0 + 1).toNatClampNeg) fun x188 => bnd2 (w_L_vacate x188 m0) fun x190 m191 => gIn (i0 + 1) L <| nm (xs (i0 + 1).toNatClampNeg) fun x193 => bnd2 (f_X8_vacate x193 m191) fun x195 m196 => bnd (f_X8_thrown m196) fun x198 => (if x198 = x190 then (if x190 = 0 then nm (lg_cmp (m196.2 170 0) x195.toInt64) fun x202 => (if x202 = 0 then nm (i0 + 5) fun x204 => some (.inl (x204, m196)) else none) else nm (i0 + 5) fun x201 => some (.inl (x201, m196))) else none) else (if x4 = 8 then gIn (i0 + 1) L <| nm (xs (i0 + 1).toNatClampNeg) fun x207 => bnd2 (w_L_pass x207 m0) fun x209 m210 => gIn (i0 + 1) L <| nm (xs (i0 + 1).toNatClampNeg) fun x212 => bnd2 (f_X8_pass x212 m210) fun x214 m215 => bnd (f_X8_thrown m215) fun x217 => (if x217 = x209 then (if x209 = 0 then nm (lg_cmp (m215.2 170 0) x214.toInt64) fun x221 => (if x221 = 0 then nm (i0 + 5) fun x223 => some (.inl (x223, m215)) else none) else nm (i0 + 5) fun x220 => some (.inl (x220, m215))) else none) else (if x4 = 9 then gIn (i0 + 1) L <| nm (xs (i0 + 1).toNatClampNeg) fun x226 => bnd2 (w_L_append x226 m0) fun x228 m229 => gIn (i0 + 1) L <| nm (xs (i0 + 1).toNatClampNeg) fun x231 => bnd2 (f_X8_append x231 m229) fun x233 m234 => bnd (f_X8_thrown m234) fun x236 => (if x236 = x228 then (if x228 = 0 then nm (lg_cmp (m234.2 170 0) x233.toInt64) fun x240 => (if x240 = 0 then nm (i0 + 5) fun x242 => some (.inl (x242, m234)) else none) else nm (i0 + 5) fun x239 => some (.inl (x239, m234))) else none) else (if x4 = 10 then bnd2 (f_X7_clearBuffer m0) fun x245 m246 => bnd2 (f_X8_clearBuffer m246) fun x248 m249 => (if x245 = x248 then nm (i0 + 5) fun x251 => some (.inl (x251, m249)) else none) else (if x4 = 11 then bnd2 (f_X7_firstError m0) fun x254 m255 => bnd2 (f_X8_firstError m255) fun x257 m258 => (if x254 = x257 then nm (i0 + 5) fun x260 => some (.inl (x260, m258)) else none) else (if x4 = 12 then bnd2 (w_L_addList  m0) fun x263 m264 => bnd2 (f_X8_addList m264) fun x266 m267 => bnd (f_X8_thrown m267) fun x269 => (if x269 = x263 then (if x263 = 0 then nm (lg_cmp (m267.2 170 0) x266.toInt64) fun x273 => (if x273 = 0 then nm (i0 + 5) fun x275 => some (.inl (x275, m267)) else none) else nm (i0 + 5) fun x272 => some (.inl (x272, m267))) else none) else (if x4 = 13 then bnd2 (w_L_undo  m0) fun x278 m279 => bnd2 (f_X8_undo m279) fun x281 m282 => bnd (f_X8_thrown m282) fun x284 => (if x284 = x278 then (if x278 = 0 then nm (lg_cmp (m282.2 170 0) x281.toInt64) fun x288 => (if x288 = 0 then nm (i0 + 5) fun x290 => some (.inl (x290, m282)) else none) else nm (i0 + 5) fun x287 => some (.inl (x287, m282))) else none) else (if x4 = 14 then gIn (i0 + 1) L <| nm (xs (i0 + 1).toNatClampNeg) fun x293 => gIn (i0 + 2) L <| nm (xs (i0 + 2).toNatClampNeg) fun x295 => bnd2 (w_L_interpreter x293 x295 m0) fun x297 m298 => gIn (i0 + 1) L <| nm (xs (i0 + 1).toNatClampNeg) fun x300 => gIn (i0 + 2) L <| nm (xs (i0 + 2).toNatClampNeg) fun x302 => bnd2 (f_X8_interpreter x300 x302 m298) fun x304 m305 => bnd (f_X8_thrown m305) fun x307 => (if x307 = x297 then (if x297 = 0 then nm (lg_cmp (m305.2 170 0) x304.toInt64) fun x311 => (if x311 = 0 then nm (i0 + 5) fun x313 => some (.inl (x313, m305)) else none) else nm (i0 + 5) fun x310 => some (.inl (x310, m305))) else none) else (if x4 = 15 then gIn (i0 + 1) L <| nm (xs (i0 + 1).toNatClampNeg) fun x316 => gIn (i0 + 2) L <| nm (xs (i0 + 2).toNatClampNeg) fun x318 => bnd2 (w_L_hearing x316 x318 m0) fun x320 m321 => gIn (i0 + 1) L <| nm (xs (i0 + 1).toNatClampNeg) fun x323 => gIn (i0 + 2) L <| nm (xs (i0 + 2).toNatClampNeg) fun x325 => bnd2 (f_X8_hearing x323 x325 m321) fun x327 m328 => bnd (f_X8_thrown m328) fun x330 => (if x330 = x320 then (if x320 = 0 then nm (lg_cmp (m328.2 170 0) x327.toInt64) fun x334 => (if x334 = 0 then nm (i0 + 5) fun x336 => some (.inl (x336, m328)) else none) else nm (i0 + 5) fun x333 => some (.inl (x333, m328))) else none) else (if x4 = 16 then gIn (i0 + 1) L <| nm (xs (i0 + 1).toNatClampNeg) fun x339 => bnd2 (w_L_count x339 m0) fun x341 m342 => gIn (i0 + 1) L <| nm (xs (i0 + 1).toNatClampNeg) fun x344 => bnd2 (f_X8_count x344 m342) fun x346 m347 => bnd (f_X8_thrown m347) fun x349 => (if x349 = x341 then (if x341 = 0 then nm (lg_cmp (m347.2 170 0) x346.toInt64) fun x353 => (if x353 = 0 then nm (i0 + 5) fun x355 => some (.inl (x355, m347)) else none) else nm (i0 + 5) fun x352 => some (.inl (x352, m347))) else none) else (if x4 = 17 then gIn (i0 + 1) L <| nm (xs (i0 + 1).toNatClampNeg) fun x358 => bnd2 (w_L_setting x358 m0) fun x360 m361 => gIn (i0 + 1) L <| nm (xs (i0 + 1).toNatClampNeg) fun x363 => bnd2 (f_X8_setting x363 m361) fun x365 m366 => bnd (f_X8_thrown m366) fun x368 => (if x368 = x360 then (if x360 = 0 then nm (lg_cmp (m366.2 170 0) x365.toInt64) fun x372 => (if x372 = 0 then nm (i0 + 5) fun x374 => some (.inl (x374, m366)) else none) else nm (i0 + 5) fun x371 => some (.inl (x371, m366))) else none) else (if x4 = 18 then gIn (i0 + 1) L <| nm (xs (i0 + 1).toNatClampNeg) fun x377 => gIn (i0 + 2) L <| nm (xs (i0 + 2).toNatClampNeg) fun x379 => gIn (i0 + 3) L <| nm (xs (i0 + 3).toNatClampNeg) fun x381 => gIn (i0 + 4) L <| nm (xs (i0 + 4).toNatClampNeg) fun x383 => bnd2 (w_L_whyNot x377 x379 x381 x383 m0) fun x385 m386 => gIn (i0 + 1) L <| nm (xs (i0 + 1).toNatClampNeg) fun x388 => gIn (i0 + 2) L <| nm (xs (i0 + 2).toNatClampNeg) fun x390 => gIn (i0 + 3) L <| nm (xs (i0 + 3).toNatClampNeg) fun x392 => gIn (i0 + 4) L <| nm (xs (i0 + 4).toNatClampNeg) fun x394 => bnd2 (f_X8_whyNot x388 x390 x392 x394 m386) fun x396 m397 => bnd (f_X8_thrown m397) fun x399 => (if x399 = x385 then (if x385 = 0 then nm (lg_cmp (m397.2 170 0) x396.toInt64) fun x403 => (if x403 = 0 then nm (i0 + 5) fun x405 => some (.inl (x405, m397)) else none) else nm (i0 + 5) fun x402 => some (.inl (x402, m397))) else none) else (if x4 = 19 then gIn (i0 + 1) L <| nm (xs (i0 + 1).toNatClampNeg) fun x408 => gIn (i0 + 2) L <| nm (xs (i0 + 2).toNatClampNeg) fun x410 => bnd2 (w_L_cheapest x408 x410 m0) fun x412 m413 => gIn (i0 + 1) L <| nm (xs (i0 + 1).toNatClampNeg) fun x415 => gIn (i0 + 2) L <| nm (xs (i0 + 2).toNatClampNeg) fun x417 => bnd2 (f_X8_cheapest x415 x417 m413) fun x419 m420 => bnd (f_X8_thrown m420) fun x422 => (if x422 = x412 then (if x412 = 0 then nm (lg_cmp (m420.2 170 0) x419.toInt64) fun x426 => (if x426 = 0 then nm (i0 + 5) fun x428 => some (.inl (x428, m420)) else none) else nm (i0 + 5) fun x425 => some (.inl (x425, m420))) else none) else (if x4 = 20 then gIn (i0 + 1) L <| nm (xs (i0 + 1).toNatClampNeg) fun x431 => gIn (i0 + 2) L <| nm (xs (i0 + 2).toNatClampNeg) fun x433 => bnd2 (w_L_tiredIn x431 x433 m0) fun x435 m436 => gIn (i0 + 1) L <| nm (xs (i0 + 1).toNatClampNeg) fun x438 => gIn (i0 + 2) L <| nm (xs (i0 + 2).toNatClampNeg) fun x440 => bnd2 (f_X8_tiredIn x438 x440 m436) fun x442 m443 => bnd (f_X8_thrown m443) fun x445 => (if x445 = x435 then (if x435 = 0 then nm (lg_cmp (m443.2 170 0) x442.toInt64) fun x449 => (if x449 = 0 then nm (i0 + 5) fun x451 => some (.inl (x451, m443)) else none) else nm (i0 + 5) fun x448 => some (.inl (x448, m443))) else none) else (if x4 = 21 then gIn (i0 + 1) L <| nm (xs (i0 + 1).toNatClampNeg) fun x454 => gIn (i0 + 2) L <| nm (xs (i0 + 2).toNatClampNeg) fun x456 => bnd2 (w_L_ifVacated x454 x456 m0) fun x458 m459 => gIn (i0 + 1) L <| nm (xs (i0 + 1).toNatClampNeg) fun x461 => gIn (i0 + 2) L <| nm (xs (i0 + 2).toNatClampNeg) fun x463 => bnd2 (f_X8_ifVacated x461 x463 m459) fun x465 m466 => bnd (f_X8_thrown m466) fun x468 => (if x468 = x458 then (if x458 = 0 then nm (lg_cmp (m466.2 170 0) x465.toInt64) fun x472 => (if x472 = 0 then nm (i0 + 5) fun x474 => some (.inl (x474, m466)) else none) else nm (i0 + 5) fun x471 => some (.inl (x471, m466))) else none) else (if x4 = 22 then bnd2 (f_X7_mannable m0) fun x477 m478 => bnd2 (f_X8_mannable m478) fun x480 m481 => (if x477 = x480 then nm (i0 + 5) fun x483 => some (.inl (x483, m481)) else none) else (if x4 = 23 then gIn (i0 + 1) L <| nm (xs (i0 + 1).toNatClampNeg) fun x486 => bnd2 (w_L_missing x486 m0) fun x488 m489 => gIn (i0 + 1) L <| nm (xs (i0 + 1).toNatClampNeg) fun x491 => bnd2 (f_X8_missing x491 m489) fun x493 m494 => bnd (f_X8_thrown m494) fun x496 => (if x496 = x488 then (if x488 = 0 then nm (lg_cmp (m494.2 170 0) x493.toInt64) fun x500 => (if x500 = 0 then nm (i0 + 5) fun x502 => some (.inl (x502, m494)) else none) else nm (i0 + 5) fun x499 => some (.inl (x499, m494))) else none) else (if x4 = 24 then bnd (f_X7_doneShare m0) fun z505 => bnd2 (f_X8_doneShare m0) fun z507 m508 => nm (Op.cmpValue (FP.dcmp z505 z507) .l) fun x509 => (if x509 = 0 then nm (i0 + 5) fun x511 => some (.inl (x511, m508)) else nm (Op.cmpValue (FP.dcmp z505 z505) .l) fun x512 => (if x512 = 0 then none else nm (Op.cmpValue (FP.dcmp z507 z507) .l) fun x514 => (if x514 = 0 then none else nm (i0 + 5) fun x516 => some (.inl (x516, m508))))) else (if x4 = 25 then bnd2 (f_X7_digest m0) fun y519 m520 => bnd2 (f_X8_digest m520) fun y522 m523 => (if (lg_cmp y519 y522) = 0 then nm (i0 + 5) fun x525 => some (.inl (x525, m523)) else none) else nm (i0 + 5) fun x526 => some (.inl (x526, m0)))))))))))))))))))))))))))))
def f_L_law (L : Nat) (xs : Nat → Int32) (m0 : Mem) : Option Mem := lp (f_L_body L xs) 1000000 (0, m0)
set_option maxRecDepth 100000 in
set_option maxHeartbeats 40000000 in
theorem law_step {X : Cx} {b L : Nat} {xs : Nat → Int32} {rt : Option FieldType} (F : Fm X cL_law RL rt 11 250 9) (S : LSc X b L xs) {ce sl : Nat} (hro : RO X (ce + 1) (sl + 6)) {i0 : Int32} {m0 : Mem} {o : (Int32 × Mem) ⊕ Mem} {Q : State → Prop} (h : f_L_body L xs (i0, m0) = some o)
    (hP : ∀ (i : Int32) (m : Mem) (ce2 sl2 : Nat), o = .inl (i, m) → ce2 ≤ ce + 1 → sl2 ≤ sl + 6 → WA X ce2 sl2 23 [(0, .ref b), (1, .ref (ga X.G 0)), (2, .ref (ga X.G 162)), (3, .ref (ga X.G 170)), (4, .int i)] [] m Q) (hE : ∀ (m : Mem) (ce2 sl2 : Nat), o = .inr m → ce2 ≤ ce + 1 → sl2 ≤ sl + 6 → WA X ce2 sl2 1648 [] [] m Q) : WA X ce sl 23 [(0, .ref b), (1, .ref (ga X.G 0)), (2, .ref (ga X.G 162)), (3, .ref (ga X.G 170)), (4, .int i0)] [] m0 Q := by
  rw [f_L_body] at h
  refine a_iload (pc := 23) F dL_law_23 4 rfl ?_
  refine a_aload_n (pc := 25) F dL_law_25 0 rfl ?_
  refine l_slen (pc := 26) F S dL_law_26 ?_
  refine a_iconst (v := 5) (pc := 27) F dL_law_27 (by decide) ?_
  refine a_isub (pc := 28) F dL_law_28 ?_
  refine a_icmp_gt (tgt := 1648) (pc := 29) F dL_law_29 (by decide) (fun q1 => ?_) (fun q1 => ?_)
  · replace h := ite_t q1 h
    clear q1
    refine a_lv F [] rfl ?_
    exact hE _ _ _ (Option.some.inj h).symm (by omega) (by omega)
  · replace h := ite_f q1 h
    clear q1
    refine a_aload_n (pc := 32) F dL_law_32 0 rfl ?_
    refine a_iload (pc := 33) F dL_law_33 4 rfl ?_
    replace h := gIn_some h
    obtain ⟨g2, h⟩ := h
    refine l_sld (pc := 35) F S dL_law_35 g2 ?_
    refine a_nmi fun x3 ex3 => ?_
    replace h := nm_at ex3 h
    clear ex3
    refine a_bipush (v := 31) (pc := 36) F dL_law_36 (by decide) ?_
    refine a_iand (pc := 38) F dL_law_38 ?_
    refine a_nmi fun x4 ex4 => ?_
    replace h := nm_at ex4 h
    clear ex4
    by_cases q5 : x4 = 0
    · replace h := ite_t q5 h
      refine a_swin (pc := 39) (tgt := 156) F dL_law_39 (by rw [q5]; decide) (by rw [q5]; decide) (by rw [q5]; rfl) (by decide) ?_
      clear q5
      refine a_aload_n (pc := 156) F dL_law_156 1 rfl ?_
      refine a_aload_n (pc := 157) F dL_law_157 0 rfl ?_
      refine a_iload (pc := 158) F dL_law_158 4 rfl ?_
      refine a_iconst (v := 1) (pc := 160) F dL_law_160 (by decide) ?_
      refine a_iadd (pc := 161) F dL_law_161 ?_
      replace h := gIn_some h
      obtain ⟨g6, h⟩ := h
      refine l_sld (pc := 162) F S dL_law_162 g6 ?_
      refine a_nmi fun x7 ex7 => ?_
      replace h := nm_at ex7 h
      clear ex7
      refine a_aload_n (pc := 163) F dL_law_163 0 rfl ?_
      refine a_iload (pc := 164) F dL_law_164 4 rfl ?_
      refine a_iconst (v := 2) (pc := 166) F dL_law_166 (by decide) ?_
      refine a_iadd (pc := 167) F dL_law_167 ?_
      replace h := gIn_some h
      obtain ⟨g8, h⟩ := h
      refine l_sld (pc := 168) F S dL_law_168 g8 ?_
      refine a_nmi fun x9 ex9 => ?_
      replace h := nm_at ex9 h
      clear ex9
      refine a_aload_n (pc := 169) F dL_law_169 0 rfl ?_
      refine a_iload (pc := 170) F dL_law_170 4 rfl ?_
      refine a_iconst (v := 3) (pc := 172) F dL_law_172 (by decide) ?_
      refine a_iadd (pc := 173) F dL_law_173 ?_
      replace h := gIn_some h
      obtain ⟨g10, h⟩ := h
      refine l_sld (pc := 174) F S dL_law_174 g10 ?_
      refine a_nmi fun x11 ex11 => ?_
      replace h := nm_at ex11 h
      clear ex11
      refine a_aload_n (pc := 175) F dL_law_175 3 rfl ?_
      replace h := bnd2_some h
      obtain ⟨x13, m14, hc12, h⟩ := h
      refine l_callW (pc := 176) (As := [.ref (ga X.G 0), .int x7, .int x9, .int x11, .ref (ga X.G 170)]) (st := []) F hro dL_law_176 (mw_L_addInterpreter hc12) cwl_87 rfl rfl rfl (Nat.le_of_ble_eq_true rfl) ⟨Nat.le_of_ble_eq_true rfl, Nat.le_of_ble_eq_true rfl⟩ ?_
      clear hc12
      refine a_istore (lv' := [(5, .int x13), (0, .ref b), (1, .ref (ga X.G 0)), (2, .ref (ga X.G 162)), (3, .ref (ga X.G 170)), (4, .int i0)]) (pc := 179) F dL_law_179 (by decide) rfl ?_
      refine a_aload_n (pc := 181) F dL_law_181 3 rfl ?_
      refine a_aload_n (pc := 182) F dL_law_182 1 rfl ?_
      refine a_iload (pc := 183) F dL_law_183 5 rfl ?_
      refine a_iconst (v := 1) (pc := 185) F dL_law_185 (by decide) ?_
      refine a_iadd (pc := 186) F dL_law_186 ?_
      replace h := gIn_some h
      obtain ⟨g15, h⟩ := h
      refine l_sld (pc := 187) F S dL_law_187 g15 ?_
      refine a_nmi fun x16 ex16 => ?_
      replace h := nm_at ex16 h
      clear ex16
      refine a_aload_n (pc := 188) F dL_law_188 1 rfl ?_
      refine a_iload (pc := 189) F dL_law_189 5 rfl ?_
      refine a_iconst (v := 2) (pc := 191) F dL_law_191 (by decide) ?_
      refine a_iadd (pc := 192) F dL_law_192 ?_
      replace h := gIn_some h
      obtain ⟨g17, h⟩ := h
      refine l_sld (pc := 193) F S dL_law_193 g17 ?_
      refine a_nmi fun x18 ex18 => ?_
      replace h := nm_at ex18 h
      clear ex18
      refine a_aload_n (pc := 194) F dL_law_194 1 rfl ?_
      refine a_iload (pc := 195) F dL_law_195 5 rfl ?_
      refine a_iconst (v := 3) (pc := 197) F dL_law_197 (by decide) ?_
      refine a_iadd (pc := 198) F dL_law_198 ?_
      replace h := gIn_some h
      obtain ⟨g19, h⟩ := h
      refine l_sld (pc := 199) F S dL_law_199 g19 ?_
      refine a_nmi fun x20 ex20 => ?_
      replace h := nm_at ex20 h
      clear ex20
      replace h := bnd2_some h
      obtain ⟨x22, m23, hc21, h⟩ := h
      refine l_callV (pc := 200) (k := 162) (As := [.int x16, .int x18, .int x20]) (st := []) F (by first | exact hro | exact hro.less) dL_law_200 (m_X8_addInterpreter hc21) cv_RL_92 kl_162 ks_162 ⟨_, _, rfl⟩ rfl rfl rfl (Nat.le_of_ble_eq_true rfl) ⟨Nat.le_of_ble_eq_true rfl, Nat.le_of_ble_eq_true rfl⟩ ?_
      clear hc21
      refine a_istore (lv' := [(6, .int x22), (5, .int x13), (0, .ref b), (1, .ref (ga X.G 0)), (2, .ref (ga X.G 162)), (3, .ref (ga X.G 170)), (4, .int i0)]) (pc := 203) F dL_law_203 (by decide) rfl ?_
      refine a_aload_n (pc := 205) F dL_law_205 4 rfl ?_
      replace h := bnd_some h
      obtain ⟨x25, hc24, h⟩ := h
      refine l_callV (pc := 206) (k := 162) (As := []) (st := []) F (by first | exact hro | exact hro.less) dL_law_206 (m_X8_thrown hc24) cv_RL_93 kl_162 ks_162 ⟨_, _, rfl⟩ rfl rfl rfl (Nat.le_of_ble_eq_true rfl) ⟨Nat.le_of_ble_eq_true rfl, Nat.le_of_ble_eq_true rfl⟩ ?_
      clear hc24
      refine a_iload (pc := 209) F dL_law_209 1 rfl ?_
      refine a_icmp_eq (tgt := 216) (pc := 211) F dL_law_211 (by decide) (fun q26 => ?_) (fun q26 => ?_)
      · replace h := ite_t q26 h
        clear q26
        refine a_iload (pc := 216) F dL_law_216 1 rfl ?_
        refine a_if_ne (tgt := 233) (pc := 218) F dL_law_218 (by decide) (fun q27 => ?_) (fun q27 => ?_)
        · replace h := ite_f q27 h
          clear q27
          refine a_goto (tgt := 1642) (pc := 233) F dL_law_233 (by decide) ?_
          obtain ⟨x28, ex28⟩ : ∃ x28 : Int32, x28 = i0 + 5 := ⟨_, rfl⟩
          refine a_iinc (v := x28) (lv' := [(4, .int x28), (6, .int x22), (5, .int x13), (0, .ref b), (1, .ref (ga X.G 0)), (2, .ref (ga X.G 162)), (3, .ref (ga X.G 170))]) (pc := 1642) F dL_law_1642 6 rfl (by rw [ex28]; rfl) (by decide) rfl ?_
          replace h := nm_at ex28 h
          clear ex28
          refine a_goto (tgt := 23) (pc := 1645) F dL_law_1645 (by decide) ?_
          refine a_lv F [3, 4, 5, 6, 0] rfl ?_
          exact hP _ _ _ _ (Option.some.inj h).symm (by omega) (by omega)
        · replace h := ite_t (Decidable.not_not.mp q27) h
          clear q27
          refine a_aload_n (pc := 221) F dL_law_221 5 rfl ?_
          refine a_iconst (v := 0) (pc := 222) F dL_law_222 (by decide) ?_
          refine a_lalc (k := 170) (pc := 223) F dL_law_223 kl_170 ks_170 rfl rfl ?_
          refine a_iload (pc := 224) F dL_law_224 0 rfl ?_
          refine a_i2l (pc := 226) F dL_law_226 ?_
          refine a_lcmp (pc := 227) F dL_law_227 ?_
          refine a_nmi fun x29 ex29 => ?_
          replace h := nm_at ex29 h
          clear ex29
          refine a_if_eq (tgt := 233) (pc := 228) F dL_law_228 (by decide) (fun q30 => ?_) (fun q30 => ?_)
          · replace h := ite_t q30 h
            clear q30
            refine a_goto (tgt := 1642) (pc := 233) F dL_law_233 (by decide) ?_
            obtain ⟨x31, ex31⟩ : ∃ x31 : Int32, x31 = i0 + 5 := ⟨_, rfl⟩
            refine a_iinc (v := x31) (lv' := [(4, .int x31), (6, .int x22), (5, .int x13), (0, .ref b), (1, .ref (ga X.G 0)), (2, .ref (ga X.G 162)), (3, .ref (ga X.G 170))]) (pc := 1642) F dL_law_1642 6 rfl (by rw [ex31]; rfl) (by decide) rfl ?_
            replace h := nm_at ex31 h
            clear ex31
            refine a_goto (tgt := 23) (pc := 1645) F dL_law_1645 (by decide) ?_
            refine a_lv F [3, 4, 5, 6, 0] rfl ?_
            exact hP _ _ _ _ (Option.some.inj h).symm (by omega) (by omega)
          · replace h := ite_f q30 h
            clear q30
            refine a_iconst (v := 0) (pc := 231) F dL_law_231 (by decide) ?_
            cases h
      · replace h := ite_f q26 h
        clear q26
        refine a_iconst (v := 0) (pc := 214) F dL_law_214 (by decide) ?_
        cases h
    replace h := ite_f q5 h
    by_cases q32 : x4 = 1
    · replace h := ite_t q32 h
      refine a_swin (pc := 39) (tgt := 236) F dL_law_39 (by rw [q32]; decide) (by rw [q32]; decide) (by rw [q32]; rfl) (by decide) ?_
      clear q32
      refine a_aload_n (pc := 236) F dL_law_236 1 rfl ?_
      refine a_aload_n (pc := 237) F dL_law_237 0 rfl ?_
      refine a_iload (pc := 238) F dL_law_238 4 rfl ?_
      refine a_iconst (v := 1) (pc := 240) F dL_law_240 (by decide) ?_
      refine a_iadd (pc := 241) F dL_law_241 ?_
      replace h := gIn_some h
      obtain ⟨g33, h⟩ := h
      refine l_sld (pc := 242) F S dL_law_242 g33 ?_
      refine a_nmi fun x34 ex34 => ?_
      replace h := nm_at ex34 h
      clear ex34
      refine a_aload_n (pc := 243) F dL_law_243 0 rfl ?_
      refine a_iload (pc := 244) F dL_law_244 4 rfl ?_
      refine a_iconst (v := 2) (pc := 246) F dL_law_246 (by decide) ?_
      refine a_iadd (pc := 247) F dL_law_247 ?_
      replace h := gIn_some h
      obtain ⟨g35, h⟩ := h
      refine l_sld (pc := 248) F S dL_law_248 g35 ?_
      refine a_nmi fun x36 ex36 => ?_
      replace h := nm_at ex36 h
      clear ex36
      refine a_aload_n (pc := 249) F dL_law_249 0 rfl ?_
      refine a_iload (pc := 250) F dL_law_250 4 rfl ?_
      refine a_iconst (v := 3) (pc := 252) F dL_law_252 (by decide) ?_
      refine a_iadd (pc := 253) F dL_law_253 ?_
      replace h := gIn_some h
      obtain ⟨g37, h⟩ := h
      refine l_sld (pc := 254) F S dL_law_254 g37 ?_
      refine a_nmi fun x38 ex38 => ?_
      replace h := nm_at ex38 h
      clear ex38
      refine a_aload_n (pc := 255) F dL_law_255 0 rfl ?_
      refine a_iload (pc := 256) F dL_law_256 4 rfl ?_
      refine a_iconst (v := 4) (pc := 258) F dL_law_258 (by decide) ?_
      refine a_iadd (pc := 259) F dL_law_259 ?_
      replace h := gIn_some h
      obtain ⟨g39, h⟩ := h
      refine l_sld (pc := 260) F S dL_law_260 g39 ?_
      refine a_nmi fun x40 ex40 => ?_
      replace h := nm_at ex40 h
      clear ex40
      refine a_aload_n (pc := 261) F dL_law_261 3 rfl ?_
      replace h := bnd2_some h
      obtain ⟨x42, m43, hc41, h⟩ := h
      refine l_callW (pc := 262) (As := [.ref (ga X.G 0), .int x34, .int x36, .int x38, .int x40, .ref (ga X.G 170)]) (st := []) F hro dL_law_262 (mw_L_addHearing hc41) cwl_96 rfl rfl rfl (Nat.le_of_ble_eq_true rfl) ⟨Nat.le_of_ble_eq_true rfl, Nat.le_of_ble_eq_true rfl⟩ ?_
      clear hc41
      refine a_istore (lv' := [(5, .int x42), (0, .ref b), (1, .ref (ga X.G 0)), (2, .ref (ga X.G 162)), (3, .ref (ga X.G 170)), (4, .int i0)]) (pc := 265) F dL_law_265 (by decide) rfl ?_
      refine a_aload_n (pc := 267) F dL_law_267 3 rfl ?_
      refine a_aload_n (pc := 268) F dL_law_268 1 rfl ?_
      refine a_iload (pc := 269) F dL_law_269 5 rfl ?_
      refine a_iconst (v := 1) (pc := 271) F dL_law_271 (by decide) ?_
      refine a_iadd (pc := 272) F dL_law_272 ?_
      replace h := gIn_some h
      obtain ⟨g44, h⟩ := h
      refine l_sld (pc := 273) F S dL_law_273 g44 ?_
      refine a_nmi fun x45 ex45 => ?_
      replace h := nm_at ex45 h
      clear ex45
      refine a_aload_n (pc := 274) F dL_law_274 1 rfl ?_
      refine a_iload (pc := 275) F dL_law_275 5 rfl ?_
      refine a_iconst (v := 2) (pc := 277) F dL_law_277 (by decide) ?_
      refine a_iadd (pc := 278) F dL_law_278 ?_
      replace h := gIn_some h
      obtain ⟨g46, h⟩ := h
      refine l_sld (pc := 279) F S dL_law_279 g46 ?_
      refine a_nmi fun x47 ex47 => ?_
      replace h := nm_at ex47 h
      clear ex47
      refine a_aload_n (pc := 280) F dL_law_280 1 rfl ?_
      refine a_iload (pc := 281) F dL_law_281 5 rfl ?_
      refine a_iconst (v := 3) (pc := 283) F dL_law_283 (by decide) ?_
      refine a_iadd (pc := 284) F dL_law_284 ?_
      replace h := gIn_some h
      obtain ⟨g48, h⟩ := h
      refine l_sld (pc := 285) F S dL_law_285 g48 ?_
      refine a_nmi fun x49 ex49 => ?_
      replace h := nm_at ex49 h
      clear ex49
      refine a_aload_n (pc := 286) F dL_law_286 1 rfl ?_
      refine a_iload (pc := 287) F dL_law_287 5 rfl ?_
      refine a_iconst (v := 4) (pc := 289) F dL_law_289 (by decide) ?_
      refine a_iadd (pc := 290) F dL_law_290 ?_
      replace h := gIn_some h
      obtain ⟨g50, h⟩ := h
      refine l_sld (pc := 291) F S dL_law_291 g50 ?_
      refine a_nmi fun x51 ex51 => ?_
      replace h := nm_at ex51 h
      clear ex51
      replace h := bnd2_some h
      obtain ⟨x53, m54, hc52, h⟩ := h
      refine l_callV (pc := 292) (k := 162) (As := [.int x45, .int x47, .int x49, .int x51]) (st := []) F (by first | exact hro | exact hro.less) dL_law_292 (m_X8_addHearing hc52) cv_RL_99 kl_162 ks_162 ⟨_, _, rfl⟩ rfl rfl rfl (Nat.le_of_ble_eq_true rfl) ⟨Nat.le_of_ble_eq_true rfl, Nat.le_of_ble_eq_true rfl⟩ ?_
      clear hc52
      refine a_istore (lv' := [(6, .int x53), (5, .int x42), (0, .ref b), (1, .ref (ga X.G 0)), (2, .ref (ga X.G 162)), (3, .ref (ga X.G 170)), (4, .int i0)]) (pc := 295) F dL_law_295 (by decide) rfl ?_
      refine a_aload_n (pc := 297) F dL_law_297 4 rfl ?_
      replace h := bnd_some h
      obtain ⟨x56, hc55, h⟩ := h
      refine l_callV (pc := 298) (k := 162) (As := []) (st := []) F (by first | exact hro | exact hro.less) dL_law_298 (m_X8_thrown hc55) cv_RL_93 kl_162 ks_162 ⟨_, _, rfl⟩ rfl rfl rfl (Nat.le_of_ble_eq_true rfl) ⟨Nat.le_of_ble_eq_true rfl, Nat.le_of_ble_eq_true rfl⟩ ?_
      clear hc55
      refine a_iload (pc := 301) F dL_law_301 1 rfl ?_
      refine a_icmp_eq (tgt := 308) (pc := 303) F dL_law_303 (by decide) (fun q57 => ?_) (fun q57 => ?_)
      · replace h := ite_t q57 h
        clear q57
        refine a_iload (pc := 308) F dL_law_308 1 rfl ?_
        refine a_if_ne (tgt := 325) (pc := 310) F dL_law_310 (by decide) (fun q58 => ?_) (fun q58 => ?_)
        · replace h := ite_f q58 h
          clear q58
          refine a_goto (tgt := 1642) (pc := 325) F dL_law_325 (by decide) ?_
          obtain ⟨x59, ex59⟩ : ∃ x59 : Int32, x59 = i0 + 5 := ⟨_, rfl⟩
          refine a_iinc (v := x59) (lv' := [(4, .int x59), (6, .int x53), (5, .int x42), (0, .ref b), (1, .ref (ga X.G 0)), (2, .ref (ga X.G 162)), (3, .ref (ga X.G 170))]) (pc := 1642) F dL_law_1642 6 rfl (by rw [ex59]; rfl) (by decide) rfl ?_
          replace h := nm_at ex59 h
          clear ex59
          refine a_goto (tgt := 23) (pc := 1645) F dL_law_1645 (by decide) ?_
          refine a_lv F [3, 4, 5, 6, 0] rfl ?_
          exact hP _ _ _ _ (Option.some.inj h).symm (by omega) (by omega)
        · replace h := ite_t (Decidable.not_not.mp q58) h
          clear q58
          refine a_aload_n (pc := 313) F dL_law_313 5 rfl ?_
          refine a_iconst (v := 0) (pc := 314) F dL_law_314 (by decide) ?_
          refine a_lalc (k := 170) (pc := 315) F dL_law_315 kl_170 ks_170 rfl rfl ?_
          refine a_iload (pc := 316) F dL_law_316 0 rfl ?_
          refine a_i2l (pc := 318) F dL_law_318 ?_
          refine a_lcmp (pc := 319) F dL_law_319 ?_
          refine a_nmi fun x60 ex60 => ?_
          replace h := nm_at ex60 h
          clear ex60
          refine a_if_eq (tgt := 325) (pc := 320) F dL_law_320 (by decide) (fun q61 => ?_) (fun q61 => ?_)
          · replace h := ite_t q61 h
            clear q61
            refine a_goto (tgt := 1642) (pc := 325) F dL_law_325 (by decide) ?_
            obtain ⟨x62, ex62⟩ : ∃ x62 : Int32, x62 = i0 + 5 := ⟨_, rfl⟩
            refine a_iinc (v := x62) (lv' := [(4, .int x62), (6, .int x53), (5, .int x42), (0, .ref b), (1, .ref (ga X.G 0)), (2, .ref (ga X.G 162)), (3, .ref (ga X.G 170))]) (pc := 1642) F dL_law_1642 6 rfl (by rw [ex62]; rfl) (by decide) rfl ?_
            replace h := nm_at ex62 h
            clear ex62
            refine a_goto (tgt := 23) (pc := 1645) F dL_law_1645 (by decide) ?_
            refine a_lv F [3, 4, 5, 6, 0] rfl ?_
            exact hP _ _ _ _ (Option.some.inj h).symm (by omega) (by omega)
          · replace h := ite_f q61 h
            clear q61
            refine a_iconst (v := 0) (pc := 323) F dL_law_323 (by decide) ?_
            cases h
      · replace h := ite_f q57 h
        clear q57
        refine a_iconst (v := 0) (pc := 306) F dL_law_306 (by decide) ?_
        cases h
    replace h := ite_f q32 h
    by_cases q63 : x4 = 2
    · replace h := ite_t q63 h
      refine a_swin (pc := 39) (tgt := 328) F dL_law_39 (by rw [q63]; decide) (by rw [q63]; decide) (by rw [q63]; rfl) (by decide) ?_
      clear q63
      refine a_aload_n (pc := 328) F dL_law_328 1 rfl ?_
      refine a_aload_n (pc := 329) F dL_law_329 0 rfl ?_
      refine a_iload (pc := 330) F dL_law_330 4 rfl ?_
      refine a_iconst (v := 1) (pc := 332) F dL_law_332 (by decide) ?_
      refine a_iadd (pc := 333) F dL_law_333 ?_
      replace h := gIn_some h
      obtain ⟨g64, h⟩ := h
      refine l_sld (pc := 334) F S dL_law_334 g64 ?_
      refine a_nmi fun x65 ex65 => ?_
      replace h := nm_at ex65 h
      clear ex65
      refine a_aload_n (pc := 335) F dL_law_335 0 rfl ?_
      refine a_iload (pc := 336) F dL_law_336 4 rfl ?_
      refine a_iconst (v := 2) (pc := 338) F dL_law_338 (by decide) ?_
      refine a_iadd (pc := 339) F dL_law_339 ?_
      replace h := gIn_some h
      obtain ⟨g66, h⟩ := h
      refine l_sld (pc := 340) F S dL_law_340 g66 ?_
      refine a_nmi fun x67 ex67 => ?_
      replace h := nm_at ex67 h
      clear ex67
      refine a_aload_n (pc := 341) F dL_law_341 3 rfl ?_
      replace h := bnd2_some h
      obtain ⟨x69, m70, hc68, h⟩ := h
      refine l_callW (pc := 342) (As := [.ref (ga X.G 0), .int x65, .int x67, .ref (ga X.G 170)]) (st := []) F hro dL_law_342 (mw_L_certify hc68) cwl_100 rfl rfl rfl (Nat.le_of_ble_eq_true rfl) ⟨Nat.le_of_ble_eq_true rfl, Nat.le_of_ble_eq_true rfl⟩ ?_
      clear hc68
      refine a_istore (lv' := [(5, .int x69), (0, .ref b), (1, .ref (ga X.G 0)), (2, .ref (ga X.G 162)), (3, .ref (ga X.G 170)), (4, .int i0)]) (pc := 345) F dL_law_345 (by decide) rfl ?_
      refine a_aload_n (pc := 347) F dL_law_347 3 rfl ?_
      refine a_aload_n (pc := 348) F dL_law_348 1 rfl ?_
      refine a_iload (pc := 349) F dL_law_349 5 rfl ?_
      refine a_iconst (v := 1) (pc := 351) F dL_law_351 (by decide) ?_
      refine a_iadd (pc := 352) F dL_law_352 ?_
      replace h := gIn_some h
      obtain ⟨g71, h⟩ := h
      refine l_sld (pc := 353) F S dL_law_353 g71 ?_
      refine a_nmi fun x72 ex72 => ?_
      replace h := nm_at ex72 h
      clear ex72
      refine a_aload_n (pc := 354) F dL_law_354 1 rfl ?_
      refine a_iload (pc := 355) F dL_law_355 5 rfl ?_
      refine a_iconst (v := 2) (pc := 357) F dL_law_357 (by decide) ?_
      refine a_iadd (pc := 358) F dL_law_358 ?_
      replace h := gIn_some h
      obtain ⟨g73, h⟩ := h
      refine l_sld (pc := 359) F S dL_law_359 g73 ?_
      refine a_nmi fun x74 ex74 => ?_
      replace h := nm_at ex74 h
      clear ex74
      replace h := bnd2_some h
      obtain ⟨x76, m77, hc75, h⟩ := h
      refine l_callV (pc := 360) (k := 162) (As := [.int x72, .int x74]) (st := []) F (by first | exact hro | exact hro.less) dL_law_360 (m_X8_certify hc75) cv_RL_103 kl_162 ks_162 ⟨_, _, rfl⟩ rfl rfl rfl (Nat.le_of_ble_eq_true rfl) ⟨Nat.le_of_ble_eq_true rfl, Nat.le_of_ble_eq_true rfl⟩ ?_
      clear hc75
      refine a_istore (lv' := [(6, .int x76), (5, .int x69), (0, .ref b), (1, .ref (ga X.G 0)), (2, .ref (ga X.G 162)), (3, .ref (ga X.G 170)), (4, .int i0)]) (pc := 363) F dL_law_363 (by decide) rfl ?_
      refine a_aload_n (pc := 365) F dL_law_365 4 rfl ?_
      replace h := bnd_some h
      obtain ⟨x79, hc78, h⟩ := h
      refine l_callV (pc := 366) (k := 162) (As := []) (st := []) F (by first | exact hro | exact hro.less) dL_law_366 (m_X8_thrown hc78) cv_RL_93 kl_162 ks_162 ⟨_, _, rfl⟩ rfl rfl rfl (Nat.le_of_ble_eq_true rfl) ⟨Nat.le_of_ble_eq_true rfl, Nat.le_of_ble_eq_true rfl⟩ ?_
      clear hc78
      refine a_iload (pc := 369) F dL_law_369 1 rfl ?_
      refine a_icmp_eq (tgt := 376) (pc := 371) F dL_law_371 (by decide) (fun q80 => ?_) (fun q80 => ?_)
      · replace h := ite_t q80 h
        clear q80
        refine a_iload (pc := 376) F dL_law_376 1 rfl ?_
        refine a_if_ne (tgt := 393) (pc := 378) F dL_law_378 (by decide) (fun q81 => ?_) (fun q81 => ?_)
        · replace h := ite_f q81 h
          clear q81
          refine a_goto (tgt := 1642) (pc := 393) F dL_law_393 (by decide) ?_
          obtain ⟨x82, ex82⟩ : ∃ x82 : Int32, x82 = i0 + 5 := ⟨_, rfl⟩
          refine a_iinc (v := x82) (lv' := [(4, .int x82), (6, .int x76), (5, .int x69), (0, .ref b), (1, .ref (ga X.G 0)), (2, .ref (ga X.G 162)), (3, .ref (ga X.G 170))]) (pc := 1642) F dL_law_1642 6 rfl (by rw [ex82]; rfl) (by decide) rfl ?_
          replace h := nm_at ex82 h
          clear ex82
          refine a_goto (tgt := 23) (pc := 1645) F dL_law_1645 (by decide) ?_
          refine a_lv F [3, 4, 5, 6, 0] rfl ?_
          exact hP _ _ _ _ (Option.some.inj h).symm (by omega) (by omega)
        · replace h := ite_t (Decidable.not_not.mp q81) h
          clear q81
          refine a_aload_n (pc := 381) F dL_law_381 5 rfl ?_
          refine a_iconst (v := 0) (pc := 382) F dL_law_382 (by decide) ?_
          refine a_lalc (k := 170) (pc := 383) F dL_law_383 kl_170 ks_170 rfl rfl ?_
          refine a_iload (pc := 384) F dL_law_384 0 rfl ?_
          refine a_i2l (pc := 386) F dL_law_386 ?_
          refine a_lcmp (pc := 387) F dL_law_387 ?_
          refine a_nmi fun x83 ex83 => ?_
          replace h := nm_at ex83 h
          clear ex83
          refine a_if_eq (tgt := 393) (pc := 388) F dL_law_388 (by decide) (fun q84 => ?_) (fun q84 => ?_)
          · replace h := ite_t q84 h
            clear q84
            refine a_goto (tgt := 1642) (pc := 393) F dL_law_393 (by decide) ?_
            obtain ⟨x85, ex85⟩ : ∃ x85 : Int32, x85 = i0 + 5 := ⟨_, rfl⟩
            refine a_iinc (v := x85) (lv' := [(4, .int x85), (6, .int x76), (5, .int x69), (0, .ref b), (1, .ref (ga X.G 0)), (2, .ref (ga X.G 162)), (3, .ref (ga X.G 170))]) (pc := 1642) F dL_law_1642 6 rfl (by rw [ex85]; rfl) (by decide) rfl ?_
            replace h := nm_at ex85 h
            clear ex85
            refine a_goto (tgt := 23) (pc := 1645) F dL_law_1645 (by decide) ?_
            refine a_lv F [3, 4, 5, 6, 0] rfl ?_
            exact hP _ _ _ _ (Option.some.inj h).symm (by omega) (by omega)
          · replace h := ite_f q84 h
            clear q84
            refine a_iconst (v := 0) (pc := 391) F dL_law_391 (by decide) ?_
            cases h
      · replace h := ite_f q80 h
        clear q80
        refine a_iconst (v := 0) (pc := 374) F dL_law_374 (by decide) ?_
        cases h
    replace h := ite_f q63 h
    by_cases q86 : x4 = 3
    · replace h := ite_t q86 h
      refine a_swin (pc := 39) (tgt := 396) F dL_law_39 (by rw [q86]; decide) (by rw [q86]; decide) (by rw [q86]; rfl) (by decide) ?_
      clear q86
      refine a_aload_n (pc := 396) F dL_law_396 1 rfl ?_
      refine a_aload_n (pc := 397) F dL_law_397 0 rfl ?_
      refine a_iload (pc := 398) F dL_law_398 4 rfl ?_
      refine a_iconst (v := 1) (pc := 400) F dL_law_400 (by decide) ?_
      refine a_iadd (pc := 401) F dL_law_401 ?_
      replace h := gIn_some h
      obtain ⟨g87, h⟩ := h
      refine l_sld (pc := 402) F S dL_law_402 g87 ?_
      refine a_nmi fun x88 ex88 => ?_
      replace h := nm_at ex88 h
      clear ex88
      refine a_aload_n (pc := 403) F dL_law_403 0 rfl ?_
      refine a_iload (pc := 404) F dL_law_404 4 rfl ?_
      refine a_iconst (v := 2) (pc := 406) F dL_law_406 (by decide) ?_
      refine a_iadd (pc := 407) F dL_law_407 ?_
      replace h := gIn_some h
      obtain ⟨g89, h⟩ := h
      refine l_sld (pc := 408) F S dL_law_408 g89 ?_
      refine a_nmi fun x90 ex90 => ?_
      replace h := nm_at ex90 h
      clear ex90
      refine a_aload_n (pc := 409) F dL_law_409 3 rfl ?_
      replace h := bnd2_some h
      obtain ⟨x92, m93, hc91, h⟩ := h
      refine l_callW (pc := 410) (As := [.ref (ga X.G 0), .int x88, .int x90, .ref (ga X.G 170)]) (st := []) F hro dL_law_410 (mw_L_set hc91) cwl_104 rfl rfl rfl (Nat.le_of_ble_eq_true rfl) ⟨Nat.le_of_ble_eq_true rfl, Nat.le_of_ble_eq_true rfl⟩ ?_
      clear hc91
      refine a_istore (lv' := [(5, .int x92), (0, .ref b), (1, .ref (ga X.G 0)), (2, .ref (ga X.G 162)), (3, .ref (ga X.G 170)), (4, .int i0)]) (pc := 413) F dL_law_413 (by decide) rfl ?_
      refine a_aload_n (pc := 415) F dL_law_415 3 rfl ?_
      refine a_aload_n (pc := 416) F dL_law_416 1 rfl ?_
      refine a_iload (pc := 417) F dL_law_417 5 rfl ?_
      refine a_iconst (v := 1) (pc := 419) F dL_law_419 (by decide) ?_
      refine a_iadd (pc := 420) F dL_law_420 ?_
      replace h := gIn_some h
      obtain ⟨g94, h⟩ := h
      refine l_sld (pc := 421) F S dL_law_421 g94 ?_
      refine a_nmi fun x95 ex95 => ?_
      replace h := nm_at ex95 h
      clear ex95
      refine a_aload_n (pc := 422) F dL_law_422 1 rfl ?_
      refine a_iload (pc := 423) F dL_law_423 5 rfl ?_
      refine a_iconst (v := 2) (pc := 425) F dL_law_425 (by decide) ?_
      refine a_iadd (pc := 426) F dL_law_426 ?_
      replace h := gIn_some h
      obtain ⟨g96, h⟩ := h
      refine l_sld (pc := 427) F S dL_law_427 g96 ?_
      refine a_nmi fun x97 ex97 => ?_
      replace h := nm_at ex97 h
      clear ex97
      replace h := bnd2_some h
      obtain ⟨x99, m100, hc98, h⟩ := h
      refine l_callV (pc := 428) (k := 162) (As := [.int x95, .int x97]) (st := []) F (by first | exact hro | exact hro.less) dL_law_428 (m_X8_set hc98) cv_RL_106 kl_162 ks_162 ⟨_, _, rfl⟩ rfl rfl rfl (Nat.le_of_ble_eq_true rfl) ⟨Nat.le_of_ble_eq_true rfl, Nat.le_of_ble_eq_true rfl⟩ ?_
      clear hc98
      refine a_istore (lv' := [(6, .int x99), (5, .int x92), (0, .ref b), (1, .ref (ga X.G 0)), (2, .ref (ga X.G 162)), (3, .ref (ga X.G 170)), (4, .int i0)]) (pc := 431) F dL_law_431 (by decide) rfl ?_
      refine a_aload_n (pc := 433) F dL_law_433 4 rfl ?_
      replace h := bnd_some h
      obtain ⟨x102, hc101, h⟩ := h
      refine l_callV (pc := 434) (k := 162) (As := []) (st := []) F (by first | exact hro | exact hro.less) dL_law_434 (m_X8_thrown hc101) cv_RL_93 kl_162 ks_162 ⟨_, _, rfl⟩ rfl rfl rfl (Nat.le_of_ble_eq_true rfl) ⟨Nat.le_of_ble_eq_true rfl, Nat.le_of_ble_eq_true rfl⟩ ?_
      clear hc101
      refine a_iload (pc := 437) F dL_law_437 1 rfl ?_
      refine a_icmp_eq (tgt := 444) (pc := 439) F dL_law_439 (by decide) (fun q103 => ?_) (fun q103 => ?_)
      · replace h := ite_t q103 h
        clear q103
        refine a_iload (pc := 444) F dL_law_444 1 rfl ?_
        refine a_if_ne (tgt := 461) (pc := 446) F dL_law_446 (by decide) (fun q104 => ?_) (fun q104 => ?_)
        · replace h := ite_f q104 h
          clear q104
          refine a_goto (tgt := 1642) (pc := 461) F dL_law_461 (by decide) ?_
          obtain ⟨x105, ex105⟩ : ∃ x105 : Int32, x105 = i0 + 5 := ⟨_, rfl⟩
          refine a_iinc (v := x105) (lv' := [(4, .int x105), (6, .int x99), (5, .int x92), (0, .ref b), (1, .ref (ga X.G 0)), (2, .ref (ga X.G 162)), (3, .ref (ga X.G 170))]) (pc := 1642) F dL_law_1642 6 rfl (by rw [ex105]; rfl) (by decide) rfl ?_
          replace h := nm_at ex105 h
          clear ex105
          refine a_goto (tgt := 23) (pc := 1645) F dL_law_1645 (by decide) ?_
          refine a_lv F [3, 4, 5, 6, 0] rfl ?_
          exact hP _ _ _ _ (Option.some.inj h).symm (by omega) (by omega)
        · replace h := ite_t (Decidable.not_not.mp q104) h
          clear q104
          refine a_aload_n (pc := 449) F dL_law_449 5 rfl ?_
          refine a_iconst (v := 0) (pc := 450) F dL_law_450 (by decide) ?_
          refine a_lalc (k := 170) (pc := 451) F dL_law_451 kl_170 ks_170 rfl rfl ?_
          refine a_iload (pc := 452) F dL_law_452 0 rfl ?_
          refine a_i2l (pc := 454) F dL_law_454 ?_
          refine a_lcmp (pc := 455) F dL_law_455 ?_
          refine a_nmi fun x106 ex106 => ?_
          replace h := nm_at ex106 h
          clear ex106
          refine a_if_eq (tgt := 461) (pc := 456) F dL_law_456 (by decide) (fun q107 => ?_) (fun q107 => ?_)
          · replace h := ite_t q107 h
            clear q107
            refine a_goto (tgt := 1642) (pc := 461) F dL_law_461 (by decide) ?_
            obtain ⟨x108, ex108⟩ : ∃ x108 : Int32, x108 = i0 + 5 := ⟨_, rfl⟩
            refine a_iinc (v := x108) (lv' := [(4, .int x108), (6, .int x99), (5, .int x92), (0, .ref b), (1, .ref (ga X.G 0)), (2, .ref (ga X.G 162)), (3, .ref (ga X.G 170))]) (pc := 1642) F dL_law_1642 6 rfl (by rw [ex108]; rfl) (by decide) rfl ?_
            replace h := nm_at ex108 h
            clear ex108
            refine a_goto (tgt := 23) (pc := 1645) F dL_law_1645 (by decide) ?_
            refine a_lv F [3, 4, 5, 6, 0] rfl ?_
            exact hP _ _ _ _ (Option.some.inj h).symm (by omega) (by omega)
          · replace h := ite_f q107 h
            clear q107
            refine a_iconst (v := 0) (pc := 459) F dL_law_459 (by decide) ?_
            cases h
      · replace h := ite_f q103 h
        clear q103
        refine a_iconst (v := 0) (pc := 442) F dL_law_442 (by decide) ?_
        cases h
    replace h := ite_f q86 h
    by_cases q109 : x4 = 4
    · replace h := ite_t q109 h
      refine a_swin (pc := 39) (tgt := 464) F dL_law_39 (by rw [q109]; decide) (by rw [q109]; decide) (by rw [q109]; rfl) (by decide) ?_
      clear q109
      refine a_aload_n (pc := 464) F dL_law_464 1 rfl ?_
      refine a_aload_n (pc := 465) F dL_law_465 0 rfl ?_
      refine a_iload (pc := 466) F dL_law_466 4 rfl ?_
      refine a_iconst (v := 1) (pc := 468) F dL_law_468 (by decide) ?_
      refine a_iadd (pc := 469) F dL_law_469 ?_
      replace h := gIn_some h
      obtain ⟨g110, h⟩ := h
      refine l_sld (pc := 470) F S dL_law_470 g110 ?_
      refine a_nmi fun x111 ex111 => ?_
      replace h := nm_at ex111 h
      clear ex111
      refine a_aload_n (pc := 471) F dL_law_471 0 rfl ?_
      refine a_iload (pc := 472) F dL_law_472 4 rfl ?_
      refine a_iconst (v := 2) (pc := 474) F dL_law_474 (by decide) ?_
      refine a_iadd (pc := 475) F dL_law_475 ?_
      replace h := gIn_some h
      obtain ⟨g112, h⟩ := h
      refine l_sld (pc := 476) F S dL_law_476 g112 ?_
      refine a_nmi fun x113 ex113 => ?_
      replace h := nm_at ex113 h
      clear ex113
      refine a_aload_n (pc := 477) F dL_law_477 0 rfl ?_
      refine a_iload (pc := 478) F dL_law_478 4 rfl ?_
      refine a_iconst (v := 3) (pc := 480) F dL_law_480 (by decide) ?_
      refine a_iadd (pc := 481) F dL_law_481 ?_
      replace h := gIn_some h
      obtain ⟨g114, h⟩ := h
      refine l_sld (pc := 482) F S dL_law_482 g114 ?_
      refine a_nmi fun x115 ex115 => ?_
      replace h := nm_at ex115 h
      clear ex115
      refine a_aload_n (pc := 483) F dL_law_483 0 rfl ?_
      refine a_iload (pc := 484) F dL_law_484 4 rfl ?_
      refine a_iconst (v := 4) (pc := 486) F dL_law_486 (by decide) ?_
      refine a_iadd (pc := 487) F dL_law_487 ?_
      replace h := gIn_some h
      obtain ⟨g116, h⟩ := h
      refine l_sld (pc := 488) F S dL_law_488 g116 ?_
      refine a_nmi fun x117 ex117 => ?_
      replace h := nm_at ex117 h
      clear ex117
      refine a_aload_n (pc := 489) F dL_law_489 3 rfl ?_
      replace h := bnd2_some h
      obtain ⟨x119, m120, hc118, h⟩ := h
      refine l_callW (pc := 490) (As := [.ref (ga X.G 0), .int x111, .int x113, .int x115, .int x117, .ref (ga X.G 170)]) (st := []) F hro dL_law_490 (mw_L_assign hc118) cwl_107 rfl rfl rfl (Nat.le_of_ble_eq_true rfl) ⟨Nat.le_of_ble_eq_true rfl, Nat.le_of_ble_eq_true rfl⟩ ?_
      clear hc118
      refine a_istore (lv' := [(5, .int x119), (0, .ref b), (1, .ref (ga X.G 0)), (2, .ref (ga X.G 162)), (3, .ref (ga X.G 170)), (4, .int i0)]) (pc := 493) F dL_law_493 (by decide) rfl ?_
      refine a_aload_n (pc := 495) F dL_law_495 3 rfl ?_
      refine a_aload_n (pc := 496) F dL_law_496 1 rfl ?_
      refine a_iload (pc := 497) F dL_law_497 5 rfl ?_
      refine a_iconst (v := 1) (pc := 499) F dL_law_499 (by decide) ?_
      refine a_iadd (pc := 500) F dL_law_500 ?_
      replace h := gIn_some h
      obtain ⟨g121, h⟩ := h
      refine l_sld (pc := 501) F S dL_law_501 g121 ?_
      refine a_nmi fun x122 ex122 => ?_
      replace h := nm_at ex122 h
      clear ex122
      refine a_aload_n (pc := 502) F dL_law_502 1 rfl ?_
      refine a_iload (pc := 503) F dL_law_503 5 rfl ?_
      refine a_iconst (v := 2) (pc := 505) F dL_law_505 (by decide) ?_
      refine a_iadd (pc := 506) F dL_law_506 ?_
      replace h := gIn_some h
      obtain ⟨g123, h⟩ := h
      refine l_sld (pc := 507) F S dL_law_507 g123 ?_
      refine a_nmi fun x124 ex124 => ?_
      replace h := nm_at ex124 h
      clear ex124
      refine a_aload_n (pc := 508) F dL_law_508 1 rfl ?_
      refine a_iload (pc := 509) F dL_law_509 5 rfl ?_
      refine a_iconst (v := 3) (pc := 511) F dL_law_511 (by decide) ?_
      refine a_iadd (pc := 512) F dL_law_512 ?_
      replace h := gIn_some h
      obtain ⟨g125, h⟩ := h
      refine l_sld (pc := 513) F S dL_law_513 g125 ?_
      refine a_nmi fun x126 ex126 => ?_
      replace h := nm_at ex126 h
      clear ex126
      refine a_aload_n (pc := 514) F dL_law_514 1 rfl ?_
      refine a_iload (pc := 515) F dL_law_515 5 rfl ?_
      refine a_iconst (v := 4) (pc := 517) F dL_law_517 (by decide) ?_
      refine a_iadd (pc := 518) F dL_law_518 ?_
      replace h := gIn_some h
      obtain ⟨g127, h⟩ := h
      refine l_sld (pc := 519) F S dL_law_519 g127 ?_
      refine a_nmi fun x128 ex128 => ?_
      replace h := nm_at ex128 h
      clear ex128
      replace h := bnd2_some h
      obtain ⟨x130, m131, hc129, h⟩ := h
      refine l_callV (pc := 520) (k := 162) (As := [.int x122, .int x124, .int x126, .int x128]) (st := []) F (by first | exact hro | exact hro.less) dL_law_520 (m_X8_assign hc129) cv_RL_109 kl_162 ks_162 ⟨_, _, rfl⟩ rfl rfl rfl (Nat.le_of_ble_eq_true rfl) ⟨Nat.le_of_ble_eq_true rfl, Nat.le_of_ble_eq_true rfl⟩ ?_
      clear hc129
      refine a_istore (lv' := [(6, .int x130), (5, .int x119), (0, .ref b), (1, .ref (ga X.G 0)), (2, .ref (ga X.G 162)), (3, .ref (ga X.G 170)), (4, .int i0)]) (pc := 523) F dL_law_523 (by decide) rfl ?_
      refine a_aload_n (pc := 525) F dL_law_525 4 rfl ?_
      replace h := bnd_some h
      obtain ⟨x133, hc132, h⟩ := h
      refine l_callV (pc := 526) (k := 162) (As := []) (st := []) F (by first | exact hro | exact hro.less) dL_law_526 (m_X8_thrown hc132) cv_RL_93 kl_162 ks_162 ⟨_, _, rfl⟩ rfl rfl rfl (Nat.le_of_ble_eq_true rfl) ⟨Nat.le_of_ble_eq_true rfl, Nat.le_of_ble_eq_true rfl⟩ ?_
      clear hc132
      refine a_iload (pc := 529) F dL_law_529 1 rfl ?_
      refine a_icmp_eq (tgt := 536) (pc := 531) F dL_law_531 (by decide) (fun q134 => ?_) (fun q134 => ?_)
      · replace h := ite_t q134 h
        clear q134
        refine a_iload (pc := 536) F dL_law_536 1 rfl ?_
        refine a_if_ne (tgt := 553) (pc := 538) F dL_law_538 (by decide) (fun q135 => ?_) (fun q135 => ?_)
        · replace h := ite_f q135 h
          clear q135
          refine a_goto (tgt := 1642) (pc := 553) F dL_law_553 (by decide) ?_
          obtain ⟨x136, ex136⟩ : ∃ x136 : Int32, x136 = i0 + 5 := ⟨_, rfl⟩
          refine a_iinc (v := x136) (lv' := [(4, .int x136), (6, .int x130), (5, .int x119), (0, .ref b), (1, .ref (ga X.G 0)), (2, .ref (ga X.G 162)), (3, .ref (ga X.G 170))]) (pc := 1642) F dL_law_1642 6 rfl (by rw [ex136]; rfl) (by decide) rfl ?_
          replace h := nm_at ex136 h
          clear ex136
          refine a_goto (tgt := 23) (pc := 1645) F dL_law_1645 (by decide) ?_
          refine a_lv F [3, 4, 5, 6, 0] rfl ?_
          exact hP _ _ _ _ (Option.some.inj h).symm (by omega) (by omega)
        · replace h := ite_t (Decidable.not_not.mp q135) h
          clear q135
          refine a_aload_n (pc := 541) F dL_law_541 5 rfl ?_
          refine a_iconst (v := 0) (pc := 542) F dL_law_542 (by decide) ?_
          refine a_lalc (k := 170) (pc := 543) F dL_law_543 kl_170 ks_170 rfl rfl ?_
          refine a_iload (pc := 544) F dL_law_544 0 rfl ?_
          refine a_i2l (pc := 546) F dL_law_546 ?_
          refine a_lcmp (pc := 547) F dL_law_547 ?_
          refine a_nmi fun x137 ex137 => ?_
          replace h := nm_at ex137 h
          clear ex137
          refine a_if_eq (tgt := 553) (pc := 548) F dL_law_548 (by decide) (fun q138 => ?_) (fun q138 => ?_)
          · replace h := ite_t q138 h
            clear q138
            refine a_goto (tgt := 1642) (pc := 553) F dL_law_553 (by decide) ?_
            obtain ⟨x139, ex139⟩ : ∃ x139 : Int32, x139 = i0 + 5 := ⟨_, rfl⟩
            refine a_iinc (v := x139) (lv' := [(4, .int x139), (6, .int x130), (5, .int x119), (0, .ref b), (1, .ref (ga X.G 0)), (2, .ref (ga X.G 162)), (3, .ref (ga X.G 170))]) (pc := 1642) F dL_law_1642 6 rfl (by rw [ex139]; rfl) (by decide) rfl ?_
            replace h := nm_at ex139 h
            clear ex139
            refine a_goto (tgt := 23) (pc := 1645) F dL_law_1645 (by decide) ?_
            refine a_lv F [3, 4, 5, 6, 0] rfl ?_
            exact hP _ _ _ _ (Option.some.inj h).symm (by omega) (by omega)
          · replace h := ite_f q138 h
            clear q138
            refine a_iconst (v := 0) (pc := 551) F dL_law_551 (by decide) ?_
            cases h
      · replace h := ite_f q134 h
        clear q134
        refine a_iconst (v := 0) (pc := 534) F dL_law_534 (by decide) ?_
        cases h
    replace h := ite_f q109 h
    by_cases q140 : x4 = 5
    · replace h := ite_t q140 h
      refine a_swin (pc := 39) (tgt := 556) F dL_law_39 (by rw [q140]; decide) (by rw [q140]; decide) (by rw [q140]; rfl) (by decide) ?_
      clear q140
      refine a_aload_n (pc := 556) F dL_law_556 1 rfl ?_
      refine a_aload_n (pc := 557) F dL_law_557 0 rfl ?_
      refine a_iload (pc := 558) F dL_law_558 4 rfl ?_
      refine a_iconst (v := 1) (pc := 560) F dL_law_560 (by decide) ?_
      refine a_iadd (pc := 561) F dL_law_561 ?_
      replace h := gIn_some h
      obtain ⟨g141, h⟩ := h
      refine l_sld (pc := 562) F S dL_law_562 g141 ?_
      refine a_nmi fun x142 ex142 => ?_
      replace h := nm_at ex142 h
      clear ex142
      refine a_aload_n (pc := 563) F dL_law_563 3 rfl ?_
      replace h := bnd2_some h
      obtain ⟨x144, m145, hc143, h⟩ := h
      refine l_callW (pc := 564) (As := [.ref (ga X.G 0), .int x142, .ref (ga X.G 170)]) (st := []) F hro dL_law_564 (mw_L_release hc143) cwl_110 rfl rfl rfl (Nat.le_of_ble_eq_true rfl) ⟨Nat.le_of_ble_eq_true rfl, Nat.le_of_ble_eq_true rfl⟩ ?_
      clear hc143
      refine a_istore (lv' := [(5, .int x144), (0, .ref b), (1, .ref (ga X.G 0)), (2, .ref (ga X.G 162)), (3, .ref (ga X.G 170)), (4, .int i0)]) (pc := 567) F dL_law_567 (by decide) rfl ?_
      refine a_aload_n (pc := 569) F dL_law_569 3 rfl ?_
      refine a_aload_n (pc := 570) F dL_law_570 1 rfl ?_
      refine a_iload (pc := 571) F dL_law_571 5 rfl ?_
      refine a_iconst (v := 1) (pc := 573) F dL_law_573 (by decide) ?_
      refine a_iadd (pc := 574) F dL_law_574 ?_
      replace h := gIn_some h
      obtain ⟨g146, h⟩ := h
      refine l_sld (pc := 575) F S dL_law_575 g146 ?_
      refine a_nmi fun x147 ex147 => ?_
      replace h := nm_at ex147 h
      clear ex147
      replace h := bnd2_some h
      obtain ⟨x149, m150, hc148, h⟩ := h
      refine l_callV (pc := 576) (k := 162) (As := [.int x147]) (st := []) F (by first | exact hro | exact hro.less) dL_law_576 (m_X8_release hc148) cv_RL_113 kl_162 ks_162 ⟨_, _, rfl⟩ rfl rfl rfl (Nat.le_of_ble_eq_true rfl) ⟨Nat.le_of_ble_eq_true rfl, Nat.le_of_ble_eq_true rfl⟩ ?_
      clear hc148
      refine a_istore (lv' := [(6, .int x149), (5, .int x144), (0, .ref b), (1, .ref (ga X.G 0)), (2, .ref (ga X.G 162)), (3, .ref (ga X.G 170)), (4, .int i0)]) (pc := 579) F dL_law_579 (by decide) rfl ?_
      refine a_aload_n (pc := 581) F dL_law_581 4 rfl ?_
      replace h := bnd_some h
      obtain ⟨x152, hc151, h⟩ := h
      refine l_callV (pc := 582) (k := 162) (As := []) (st := []) F (by first | exact hro | exact hro.less) dL_law_582 (m_X8_thrown hc151) cv_RL_93 kl_162 ks_162 ⟨_, _, rfl⟩ rfl rfl rfl (Nat.le_of_ble_eq_true rfl) ⟨Nat.le_of_ble_eq_true rfl, Nat.le_of_ble_eq_true rfl⟩ ?_
      clear hc151
      refine a_iload (pc := 585) F dL_law_585 1 rfl ?_
      refine a_icmp_eq (tgt := 592) (pc := 587) F dL_law_587 (by decide) (fun q153 => ?_) (fun q153 => ?_)
      · replace h := ite_t q153 h
        clear q153
        refine a_iload (pc := 592) F dL_law_592 1 rfl ?_
        refine a_if_ne (tgt := 609) (pc := 594) F dL_law_594 (by decide) (fun q154 => ?_) (fun q154 => ?_)
        · replace h := ite_f q154 h
          clear q154
          refine a_goto (tgt := 1642) (pc := 609) F dL_law_609 (by decide) ?_
          obtain ⟨x155, ex155⟩ : ∃ x155 : Int32, x155 = i0 + 5 := ⟨_, rfl⟩
          refine a_iinc (v := x155) (lv' := [(4, .int x155), (6, .int x149), (5, .int x144), (0, .ref b), (1, .ref (ga X.G 0)), (2, .ref (ga X.G 162)), (3, .ref (ga X.G 170))]) (pc := 1642) F dL_law_1642 6 rfl (by rw [ex155]; rfl) (by decide) rfl ?_
          replace h := nm_at ex155 h
          clear ex155
          refine a_goto (tgt := 23) (pc := 1645) F dL_law_1645 (by decide) ?_
          refine a_lv F [3, 4, 5, 6, 0] rfl ?_
          exact hP _ _ _ _ (Option.some.inj h).symm (by omega) (by omega)
        · replace h := ite_t (Decidable.not_not.mp q154) h
          clear q154
          refine a_aload_n (pc := 597) F dL_law_597 5 rfl ?_
          refine a_iconst (v := 0) (pc := 598) F dL_law_598 (by decide) ?_
          refine a_lalc (k := 170) (pc := 599) F dL_law_599 kl_170 ks_170 rfl rfl ?_
          refine a_iload (pc := 600) F dL_law_600 0 rfl ?_
          refine a_i2l (pc := 602) F dL_law_602 ?_
          refine a_lcmp (pc := 603) F dL_law_603 ?_
          refine a_nmi fun x156 ex156 => ?_
          replace h := nm_at ex156 h
          clear ex156
          refine a_if_eq (tgt := 609) (pc := 604) F dL_law_604 (by decide) (fun q157 => ?_) (fun q157 => ?_)
          · replace h := ite_t q157 h
            clear q157
            refine a_goto (tgt := 1642) (pc := 609) F dL_law_609 (by decide) ?_
            obtain ⟨x158, ex158⟩ : ∃ x158 : Int32, x158 = i0 + 5 := ⟨_, rfl⟩
            refine a_iinc (v := x158) (lv' := [(4, .int x158), (6, .int x149), (5, .int x144), (0, .ref b), (1, .ref (ga X.G 0)), (2, .ref (ga X.G 162)), (3, .ref (ga X.G 170))]) (pc := 1642) F dL_law_1642 6 rfl (by rw [ex158]; rfl) (by decide) rfl ?_
            replace h := nm_at ex158 h
            clear ex158
            refine a_goto (tgt := 23) (pc := 1645) F dL_law_1645 (by decide) ?_
            refine a_lv F [3, 4, 5, 6, 0] rfl ?_
            exact hP _ _ _ _ (Option.some.inj h).symm (by omega) (by omega)
          · replace h := ite_f q157 h
            clear q157
            refine a_iconst (v := 0) (pc := 607) F dL_law_607 (by decide) ?_
            cases h
      · replace h := ite_f q153 h
        clear q153
        refine a_iconst (v := 0) (pc := 590) F dL_law_590 (by decide) ?_
        cases h
    replace h := ite_f q140 h
    by_cases q159 : x4 = 6
    · replace h := ite_t q159 h
      refine a_swin (pc := 39) (tgt := 612) F dL_law_39 (by rw [q159]; decide) (by rw [q159]; decide) (by rw [q159]; rfl) (by decide) ?_
      clear q159
      refine a_aload_n (pc := 612) F dL_law_612 1 rfl ?_
      refine a_aload_n (pc := 613) F dL_law_613 0 rfl ?_
      refine a_iload (pc := 614) F dL_law_614 4 rfl ?_
      refine a_iconst (v := 1) (pc := 616) F dL_law_616 (by decide) ?_
      refine a_iadd (pc := 617) F dL_law_617 ?_
      replace h := gIn_some h
      obtain ⟨g160, h⟩ := h
      refine l_sld (pc := 618) F S dL_law_618 g160 ?_
      refine a_nmi fun x161 ex161 => ?_
      replace h := nm_at ex161 h
      clear ex161
      refine a_aload_n (pc := 619) F dL_law_619 0 rfl ?_
      refine a_iload (pc := 620) F dL_law_620 4 rfl ?_
      refine a_iconst (v := 2) (pc := 622) F dL_law_622 (by decide) ?_
      refine a_iadd (pc := 623) F dL_law_623 ?_
      replace h := gIn_some h
      obtain ⟨g162, h⟩ := h
      refine l_sld (pc := 624) F S dL_law_624 g162 ?_
      refine a_nmi fun x163 ex163 => ?_
      replace h := nm_at ex163 h
      clear ex163
      refine a_aload_n (pc := 625) F dL_law_625 0 rfl ?_
      refine a_iload (pc := 626) F dL_law_626 4 rfl ?_
      refine a_iconst (v := 3) (pc := 628) F dL_law_628 (by decide) ?_
      refine a_iadd (pc := 629) F dL_law_629 ?_
      replace h := gIn_some h
      obtain ⟨g164, h⟩ := h
      refine l_sld (pc := 630) F S dL_law_630 g164 ?_
      refine a_nmi fun x165 ex165 => ?_
      replace h := nm_at ex165 h
      clear ex165
      refine a_aload_n (pc := 631) F dL_law_631 3 rfl ?_
      replace h := bnd2_some h
      obtain ⟨x167, m168, hc166, h⟩ := h
      refine l_callW (pc := 632) (As := [.ref (ga X.G 0), .int x161, .int x163, .int x165, .ref (ga X.G 170)]) (st := []) F hro dL_law_632 (mw_L_swap hc166) cwl_114 rfl rfl rfl (Nat.le_of_ble_eq_true rfl) ⟨Nat.le_of_ble_eq_true rfl, Nat.le_of_ble_eq_true rfl⟩ ?_
      clear hc166
      refine a_istore (lv' := [(5, .int x167), (0, .ref b), (1, .ref (ga X.G 0)), (2, .ref (ga X.G 162)), (3, .ref (ga X.G 170)), (4, .int i0)]) (pc := 635) F dL_law_635 (by decide) rfl ?_
      refine a_aload_n (pc := 637) F dL_law_637 3 rfl ?_
      refine a_aload_n (pc := 638) F dL_law_638 1 rfl ?_
      refine a_iload (pc := 639) F dL_law_639 5 rfl ?_
      refine a_iconst (v := 1) (pc := 641) F dL_law_641 (by decide) ?_
      refine a_iadd (pc := 642) F dL_law_642 ?_
      replace h := gIn_some h
      obtain ⟨g169, h⟩ := h
      refine l_sld (pc := 643) F S dL_law_643 g169 ?_
      refine a_nmi fun x170 ex170 => ?_
      replace h := nm_at ex170 h
      clear ex170
      refine a_aload_n (pc := 644) F dL_law_644 1 rfl ?_
      refine a_iload (pc := 645) F dL_law_645 5 rfl ?_
      refine a_iconst (v := 2) (pc := 647) F dL_law_647 (by decide) ?_
      refine a_iadd (pc := 648) F dL_law_648 ?_
      replace h := gIn_some h
      obtain ⟨g171, h⟩ := h
      refine l_sld (pc := 649) F S dL_law_649 g171 ?_
      refine a_nmi fun x172 ex172 => ?_
      replace h := nm_at ex172 h
      clear ex172
      refine a_aload_n (pc := 650) F dL_law_650 1 rfl ?_
      refine a_iload (pc := 651) F dL_law_651 5 rfl ?_
      refine a_iconst (v := 3) (pc := 653) F dL_law_653 (by decide) ?_
      refine a_iadd (pc := 654) F dL_law_654 ?_
      replace h := gIn_some h
      obtain ⟨g173, h⟩ := h
      refine l_sld (pc := 655) F S dL_law_655 g173 ?_
      refine a_nmi fun x174 ex174 => ?_
      replace h := nm_at ex174 h
      clear ex174
      replace h := bnd2_some h
      obtain ⟨x176, m177, hc175, h⟩ := h
      refine l_callV (pc := 656) (k := 162) (As := [.int x170, .int x172, .int x174]) (st := []) F (by first | exact hro | exact hro.less) dL_law_656 (m_X8_swap hc175) cv_RL_116 kl_162 ks_162 ⟨_, _, rfl⟩ rfl rfl rfl (Nat.le_of_ble_eq_true rfl) ⟨Nat.le_of_ble_eq_true rfl, Nat.le_of_ble_eq_true rfl⟩ ?_
      clear hc175
      refine a_istore (lv' := [(6, .int x176), (5, .int x167), (0, .ref b), (1, .ref (ga X.G 0)), (2, .ref (ga X.G 162)), (3, .ref (ga X.G 170)), (4, .int i0)]) (pc := 659) F dL_law_659 (by decide) rfl ?_
      refine a_aload_n (pc := 661) F dL_law_661 4 rfl ?_
      replace h := bnd_some h
      obtain ⟨x179, hc178, h⟩ := h
      refine l_callV (pc := 662) (k := 162) (As := []) (st := []) F (by first | exact hro | exact hro.less) dL_law_662 (m_X8_thrown hc178) cv_RL_93 kl_162 ks_162 ⟨_, _, rfl⟩ rfl rfl rfl (Nat.le_of_ble_eq_true rfl) ⟨Nat.le_of_ble_eq_true rfl, Nat.le_of_ble_eq_true rfl⟩ ?_
      clear hc178
      refine a_iload (pc := 665) F dL_law_665 1 rfl ?_
      refine a_icmp_eq (tgt := 672) (pc := 667) F dL_law_667 (by decide) (fun q180 => ?_) (fun q180 => ?_)
      · replace h := ite_t q180 h
        clear q180
        refine a_iload (pc := 672) F dL_law_672 1 rfl ?_
        refine a_if_ne (tgt := 689) (pc := 674) F dL_law_674 (by decide) (fun q181 => ?_) (fun q181 => ?_)
        · replace h := ite_f q181 h
          clear q181
          refine a_goto (tgt := 1642) (pc := 689) F dL_law_689 (by decide) ?_
          obtain ⟨x182, ex182⟩ : ∃ x182 : Int32, x182 = i0 + 5 := ⟨_, rfl⟩
          refine a_iinc (v := x182) (lv' := [(4, .int x182), (6, .int x176), (5, .int x167), (0, .ref b), (1, .ref (ga X.G 0)), (2, .ref (ga X.G 162)), (3, .ref (ga X.G 170))]) (pc := 1642) F dL_law_1642 6 rfl (by rw [ex182]; rfl) (by decide) rfl ?_
          replace h := nm_at ex182 h
          clear ex182
          refine a_goto (tgt := 23) (pc := 1645) F dL_law_1645 (by decide) ?_
          refine a_lv F [3, 4, 5, 6, 0] rfl ?_
          exact hP _ _ _ _ (Option.some.inj h).symm (by omega) (by omega)
        · replace h := ite_t (Decidable.not_not.mp q181) h
          clear q181
          refine a_aload_n (pc := 677) F dL_law_677 5 rfl ?_
          refine a_iconst (v := 0) (pc := 678) F dL_law_678 (by decide) ?_
          refine a_lalc (k := 170) (pc := 679) F dL_law_679 kl_170 ks_170 rfl rfl ?_
          refine a_iload (pc := 680) F dL_law_680 0 rfl ?_
          refine a_i2l (pc := 682) F dL_law_682 ?_
          refine a_lcmp (pc := 683) F dL_law_683 ?_
          refine a_nmi fun x183 ex183 => ?_
          replace h := nm_at ex183 h
          clear ex183
          refine a_if_eq (tgt := 689) (pc := 684) F dL_law_684 (by decide) (fun q184 => ?_) (fun q184 => ?_)
          · replace h := ite_t q184 h
            clear q184
            refine a_goto (tgt := 1642) (pc := 689) F dL_law_689 (by decide) ?_
            obtain ⟨x185, ex185⟩ : ∃ x185 : Int32, x185 = i0 + 5 := ⟨_, rfl⟩
            refine a_iinc (v := x185) (lv' := [(4, .int x185), (6, .int x176), (5, .int x167), (0, .ref b), (1, .ref (ga X.G 0)), (2, .ref (ga X.G 162)), (3, .ref (ga X.G 170))]) (pc := 1642) F dL_law_1642 6 rfl (by rw [ex185]; rfl) (by decide) rfl ?_
            replace h := nm_at ex185 h
            clear ex185
            refine a_goto (tgt := 23) (pc := 1645) F dL_law_1645 (by decide) ?_
            refine a_lv F [3, 4, 5, 6, 0] rfl ?_
            exact hP _ _ _ _ (Option.some.inj h).symm (by omega) (by omega)
          · replace h := ite_f q184 h
            clear q184
            refine a_iconst (v := 0) (pc := 687) F dL_law_687 (by decide) ?_
            cases h
      · replace h := ite_f q180 h
        clear q180
        refine a_iconst (v := 0) (pc := 670) F dL_law_670 (by decide) ?_
        cases h
    replace h := ite_f q159 h
    by_cases q186 : x4 = 7
    · replace h := ite_t q186 h
      refine a_swin (pc := 39) (tgt := 692) F dL_law_39 (by rw [q186]; decide) (by rw [q186]; decide) (by rw [q186]; rfl) (by decide) ?_
      clear q186
      refine a_aload_n (pc := 692) F dL_law_692 1 rfl ?_
      refine a_aload_n (pc := 693) F dL_law_693 0 rfl ?_
      refine a_iload (pc := 694) F dL_law_694 4 rfl ?_
      refine a_iconst (v := 1) (pc := 696) F dL_law_696 (by decide) ?_
      refine a_iadd (pc := 697) F dL_law_697 ?_
      replace h := gIn_some h
      obtain ⟨g187, h⟩ := h
      refine l_sld (pc := 698) F S dL_law_698 g187 ?_
      refine a_nmi fun x188 ex188 => ?_
      replace h := nm_at ex188 h
      clear ex188
      refine a_aload_n (pc := 699) F dL_law_699 3 rfl ?_
      replace h := bnd2_some h
      obtain ⟨x190, m191, hc189, h⟩ := h
      refine l_callW (pc := 700) (As := [.ref (ga X.G 0), .int x188, .ref (ga X.G 170)]) (st := []) F hro dL_law_700 (mw_L_vacate hc189) cwl_117 rfl rfl rfl (Nat.le_of_ble_eq_true rfl) ⟨Nat.le_of_ble_eq_true rfl, Nat.le_of_ble_eq_true rfl⟩ ?_
      clear hc189
      refine a_istore (lv' := [(5, .int x190), (0, .ref b), (1, .ref (ga X.G 0)), (2, .ref (ga X.G 162)), (3, .ref (ga X.G 170)), (4, .int i0)]) (pc := 703) F dL_law_703 (by decide) rfl ?_
      refine a_aload_n (pc := 705) F dL_law_705 3 rfl ?_
      refine a_aload_n (pc := 706) F dL_law_706 1 rfl ?_
      refine a_iload (pc := 707) F dL_law_707 5 rfl ?_
      refine a_iconst (v := 1) (pc := 709) F dL_law_709 (by decide) ?_
      refine a_iadd (pc := 710) F dL_law_710 ?_
      replace h := gIn_some h
      obtain ⟨g192, h⟩ := h
      refine l_sld (pc := 711) F S dL_law_711 g192 ?_
      refine a_nmi fun x193 ex193 => ?_
      replace h := nm_at ex193 h
      clear ex193
      replace h := bnd2_some h
      obtain ⟨x195, m196, hc194, h⟩ := h
      refine l_callV (pc := 712) (k := 162) (As := [.int x193]) (st := []) F (by first | exact hro | exact hro.less) dL_law_712 (m_X8_vacate hc194) cv_RL_119 kl_162 ks_162 ⟨_, _, rfl⟩ rfl rfl rfl (Nat.le_of_ble_eq_true rfl) ⟨Nat.le_of_ble_eq_true rfl, Nat.le_of_ble_eq_true rfl⟩ ?_
      clear hc194
      refine a_istore (lv' := [(6, .int x195), (5, .int x190), (0, .ref b), (1, .ref (ga X.G 0)), (2, .ref (ga X.G 162)), (3, .ref (ga X.G 170)), (4, .int i0)]) (pc := 715) F dL_law_715 (by decide) rfl ?_
      refine a_aload_n (pc := 717) F dL_law_717 4 rfl ?_
      replace h := bnd_some h
      obtain ⟨x198, hc197, h⟩ := h
      refine l_callV (pc := 718) (k := 162) (As := []) (st := []) F (by first | exact hro | exact hro.less) dL_law_718 (m_X8_thrown hc197) cv_RL_93 kl_162 ks_162 ⟨_, _, rfl⟩ rfl rfl rfl (Nat.le_of_ble_eq_true rfl) ⟨Nat.le_of_ble_eq_true rfl, Nat.le_of_ble_eq_true rfl⟩ ?_
      clear hc197
      refine a_iload (pc := 721) F dL_law_721 1 rfl ?_
      refine a_icmp_eq (tgt := 728) (pc := 723) F dL_law_723 (by decide) (fun q199 => ?_) (fun q199 => ?_)
      · replace h := ite_t q199 h
        clear q199
        refine a_iload (pc := 728) F dL_law_728 1 rfl ?_
        refine a_if_ne (tgt := 745) (pc := 730) F dL_law_730 (by decide) (fun q200 => ?_) (fun q200 => ?_)
        · replace h := ite_f q200 h
          clear q200
          refine a_goto (tgt := 1642) (pc := 745) F dL_law_745 (by decide) ?_
          obtain ⟨x201, ex201⟩ : ∃ x201 : Int32, x201 = i0 + 5 := ⟨_, rfl⟩
          refine a_iinc (v := x201) (lv' := [(4, .int x201), (6, .int x195), (5, .int x190), (0, .ref b), (1, .ref (ga X.G 0)), (2, .ref (ga X.G 162)), (3, .ref (ga X.G 170))]) (pc := 1642) F dL_law_1642 6 rfl (by rw [ex201]; rfl) (by decide) rfl ?_
          replace h := nm_at ex201 h
          clear ex201
          refine a_goto (tgt := 23) (pc := 1645) F dL_law_1645 (by decide) ?_
          refine a_lv F [3, 4, 5, 6, 0] rfl ?_
          exact hP _ _ _ _ (Option.some.inj h).symm (by omega) (by omega)
        · replace h := ite_t (Decidable.not_not.mp q200) h
          clear q200
          refine a_aload_n (pc := 733) F dL_law_733 5 rfl ?_
          refine a_iconst (v := 0) (pc := 734) F dL_law_734 (by decide) ?_
          refine a_lalc (k := 170) (pc := 735) F dL_law_735 kl_170 ks_170 rfl rfl ?_
          refine a_iload (pc := 736) F dL_law_736 0 rfl ?_
          refine a_i2l (pc := 738) F dL_law_738 ?_
          refine a_lcmp (pc := 739) F dL_law_739 ?_
          refine a_nmi fun x202 ex202 => ?_
          replace h := nm_at ex202 h
          clear ex202
          refine a_if_eq (tgt := 745) (pc := 740) F dL_law_740 (by decide) (fun q203 => ?_) (fun q203 => ?_)
          · replace h := ite_t q203 h
            clear q203
            refine a_goto (tgt := 1642) (pc := 745) F dL_law_745 (by decide) ?_
            obtain ⟨x204, ex204⟩ : ∃ x204 : Int32, x204 = i0 + 5 := ⟨_, rfl⟩
            refine a_iinc (v := x204) (lv' := [(4, .int x204), (6, .int x195), (5, .int x190), (0, .ref b), (1, .ref (ga X.G 0)), (2, .ref (ga X.G 162)), (3, .ref (ga X.G 170))]) (pc := 1642) F dL_law_1642 6 rfl (by rw [ex204]; rfl) (by decide) rfl ?_
            replace h := nm_at ex204 h
            clear ex204
            refine a_goto (tgt := 23) (pc := 1645) F dL_law_1645 (by decide) ?_
            refine a_lv F [3, 4, 5, 6, 0] rfl ?_
            exact hP _ _ _ _ (Option.some.inj h).symm (by omega) (by omega)
          · replace h := ite_f q203 h
            clear q203
            refine a_iconst (v := 0) (pc := 743) F dL_law_743 (by decide) ?_
            cases h
      · replace h := ite_f q199 h
        clear q199
        refine a_iconst (v := 0) (pc := 726) F dL_law_726 (by decide) ?_
        cases h
    replace h := ite_f q186 h
    by_cases q205 : x4 = 8
    · replace h := ite_t q205 h
      refine a_swin (pc := 39) (tgt := 748) F dL_law_39 (by rw [q205]; decide) (by rw [q205]; decide) (by rw [q205]; rfl) (by decide) ?_
      clear q205
      refine a_aload_n (pc := 748) F dL_law_748 1 rfl ?_
      refine a_aload_n (pc := 749) F dL_law_749 0 rfl ?_
      refine a_iload (pc := 750) F dL_law_750 4 rfl ?_
      refine a_iconst (v := 1) (pc := 752) F dL_law_752 (by decide) ?_
      refine a_iadd (pc := 753) F dL_law_753 ?_
      replace h := gIn_some h
      obtain ⟨g206, h⟩ := h
      refine l_sld (pc := 754) F S dL_law_754 g206 ?_
      refine a_nmi fun x207 ex207 => ?_
      replace h := nm_at ex207 h
      clear ex207
      refine a_aload_n (pc := 755) F dL_law_755 3 rfl ?_
      replace h := bnd2_some h
      obtain ⟨x209, m210, hc208, h⟩ := h
      refine l_callW (pc := 756) (As := [.ref (ga X.G 0), .int x207, .ref (ga X.G 170)]) (st := []) F hro dL_law_756 (mw_L_pass hc208) cwl_120 rfl rfl rfl (Nat.le_of_ble_eq_true rfl) ⟨Nat.le_of_ble_eq_true rfl, Nat.le_of_ble_eq_true rfl⟩ ?_
      clear hc208
      refine a_istore (lv' := [(5, .int x209), (0, .ref b), (1, .ref (ga X.G 0)), (2, .ref (ga X.G 162)), (3, .ref (ga X.G 170)), (4, .int i0)]) (pc := 759) F dL_law_759 (by decide) rfl ?_
      refine a_aload_n (pc := 761) F dL_law_761 3 rfl ?_
      refine a_aload_n (pc := 762) F dL_law_762 1 rfl ?_
      refine a_iload (pc := 763) F dL_law_763 5 rfl ?_
      refine a_iconst (v := 1) (pc := 765) F dL_law_765 (by decide) ?_
      refine a_iadd (pc := 766) F dL_law_766 ?_
      replace h := gIn_some h
      obtain ⟨g211, h⟩ := h
      refine l_sld (pc := 767) F S dL_law_767 g211 ?_
      refine a_nmi fun x212 ex212 => ?_
      replace h := nm_at ex212 h
      clear ex212
      replace h := bnd2_some h
      obtain ⟨x214, m215, hc213, h⟩ := h
      refine l_callV (pc := 768) (k := 162) (As := [.int x212]) (st := []) F (by first | exact hro | exact hro.less) dL_law_768 (m_X8_pass hc213) cv_RL_122 kl_162 ks_162 ⟨_, _, rfl⟩ rfl rfl rfl (Nat.le_of_ble_eq_true rfl) ⟨Nat.le_of_ble_eq_true rfl, Nat.le_of_ble_eq_true rfl⟩ ?_
      clear hc213
      refine a_istore (lv' := [(6, .int x214), (5, .int x209), (0, .ref b), (1, .ref (ga X.G 0)), (2, .ref (ga X.G 162)), (3, .ref (ga X.G 170)), (4, .int i0)]) (pc := 771) F dL_law_771 (by decide) rfl ?_
      refine a_aload_n (pc := 773) F dL_law_773 4 rfl ?_
      replace h := bnd_some h
      obtain ⟨x217, hc216, h⟩ := h
      refine l_callV (pc := 774) (k := 162) (As := []) (st := []) F (by first | exact hro | exact hro.less) dL_law_774 (m_X8_thrown hc216) cv_RL_93 kl_162 ks_162 ⟨_, _, rfl⟩ rfl rfl rfl (Nat.le_of_ble_eq_true rfl) ⟨Nat.le_of_ble_eq_true rfl, Nat.le_of_ble_eq_true rfl⟩ ?_
      clear hc216
      refine a_iload (pc := 777) F dL_law_777 1 rfl ?_
      refine a_icmp_eq (tgt := 784) (pc := 779) F dL_law_779 (by decide) (fun q218 => ?_) (fun q218 => ?_)
      · replace h := ite_t q218 h
        clear q218
        refine a_iload (pc := 784) F dL_law_784 1 rfl ?_
        refine a_if_ne (tgt := 801) (pc := 786) F dL_law_786 (by decide) (fun q219 => ?_) (fun q219 => ?_)
        · replace h := ite_f q219 h
          clear q219
          refine a_goto (tgt := 1642) (pc := 801) F dL_law_801 (by decide) ?_
          obtain ⟨x220, ex220⟩ : ∃ x220 : Int32, x220 = i0 + 5 := ⟨_, rfl⟩
          refine a_iinc (v := x220) (lv' := [(4, .int x220), (6, .int x214), (5, .int x209), (0, .ref b), (1, .ref (ga X.G 0)), (2, .ref (ga X.G 162)), (3, .ref (ga X.G 170))]) (pc := 1642) F dL_law_1642 6 rfl (by rw [ex220]; rfl) (by decide) rfl ?_
          replace h := nm_at ex220 h
          clear ex220
          refine a_goto (tgt := 23) (pc := 1645) F dL_law_1645 (by decide) ?_
          refine a_lv F [3, 4, 5, 6, 0] rfl ?_
          exact hP _ _ _ _ (Option.some.inj h).symm (by omega) (by omega)
        · replace h := ite_t (Decidable.not_not.mp q219) h
          clear q219
          refine a_aload_n (pc := 789) F dL_law_789 5 rfl ?_
          refine a_iconst (v := 0) (pc := 790) F dL_law_790 (by decide) ?_
          refine a_lalc (k := 170) (pc := 791) F dL_law_791 kl_170 ks_170 rfl rfl ?_
          refine a_iload (pc := 792) F dL_law_792 0 rfl ?_
          refine a_i2l (pc := 794) F dL_law_794 ?_
          refine a_lcmp (pc := 795) F dL_law_795 ?_
          refine a_nmi fun x221 ex221 => ?_
          replace h := nm_at ex221 h
          clear ex221
          refine a_if_eq (tgt := 801) (pc := 796) F dL_law_796 (by decide) (fun q222 => ?_) (fun q222 => ?_)
          · replace h := ite_t q222 h
            clear q222
            refine a_goto (tgt := 1642) (pc := 801) F dL_law_801 (by decide) ?_
            obtain ⟨x223, ex223⟩ : ∃ x223 : Int32, x223 = i0 + 5 := ⟨_, rfl⟩
            refine a_iinc (v := x223) (lv' := [(4, .int x223), (6, .int x214), (5, .int x209), (0, .ref b), (1, .ref (ga X.G 0)), (2, .ref (ga X.G 162)), (3, .ref (ga X.G 170))]) (pc := 1642) F dL_law_1642 6 rfl (by rw [ex223]; rfl) (by decide) rfl ?_
            replace h := nm_at ex223 h
            clear ex223
            refine a_goto (tgt := 23) (pc := 1645) F dL_law_1645 (by decide) ?_
            refine a_lv F [3, 4, 5, 6, 0] rfl ?_
            exact hP _ _ _ _ (Option.some.inj h).symm (by omega) (by omega)
          · replace h := ite_f q222 h
            clear q222
            refine a_iconst (v := 0) (pc := 799) F dL_law_799 (by decide) ?_
            cases h
      · replace h := ite_f q218 h
        clear q218
        refine a_iconst (v := 0) (pc := 782) F dL_law_782 (by decide) ?_
        cases h
    replace h := ite_f q205 h
    by_cases q224 : x4 = 9
    · replace h := ite_t q224 h
      refine a_swin (pc := 39) (tgt := 804) F dL_law_39 (by rw [q224]; decide) (by rw [q224]; decide) (by rw [q224]; rfl) (by decide) ?_
      clear q224
      refine a_aload_n (pc := 804) F dL_law_804 1 rfl ?_
      refine a_aload_n (pc := 805) F dL_law_805 0 rfl ?_
      refine a_iload (pc := 806) F dL_law_806 4 rfl ?_
      refine a_iconst (v := 1) (pc := 808) F dL_law_808 (by decide) ?_
      refine a_iadd (pc := 809) F dL_law_809 ?_
      replace h := gIn_some h
      obtain ⟨g225, h⟩ := h
      refine l_sld (pc := 810) F S dL_law_810 g225 ?_
      refine a_nmi fun x226 ex226 => ?_
      replace h := nm_at ex226 h
      clear ex226
      refine a_aload_n (pc := 811) F dL_law_811 3 rfl ?_
      replace h := bnd2_some h
      obtain ⟨x228, m229, hc227, h⟩ := h
      refine l_callW (pc := 812) (As := [.ref (ga X.G 0), .int x226, .ref (ga X.G 170)]) (st := []) F hro dL_law_812 (mw_L_append hc227) cwl_123 rfl rfl rfl (Nat.le_of_ble_eq_true rfl) ⟨Nat.le_of_ble_eq_true rfl, Nat.le_of_ble_eq_true rfl⟩ ?_
      clear hc227
      refine a_istore (lv' := [(5, .int x228), (0, .ref b), (1, .ref (ga X.G 0)), (2, .ref (ga X.G 162)), (3, .ref (ga X.G 170)), (4, .int i0)]) (pc := 815) F dL_law_815 (by decide) rfl ?_
      refine a_aload_n (pc := 817) F dL_law_817 3 rfl ?_
      refine a_aload_n (pc := 818) F dL_law_818 1 rfl ?_
      refine a_iload (pc := 819) F dL_law_819 5 rfl ?_
      refine a_iconst (v := 1) (pc := 821) F dL_law_821 (by decide) ?_
      refine a_iadd (pc := 822) F dL_law_822 ?_
      replace h := gIn_some h
      obtain ⟨g230, h⟩ := h
      refine l_sld (pc := 823) F S dL_law_823 g230 ?_
      refine a_nmi fun x231 ex231 => ?_
      replace h := nm_at ex231 h
      clear ex231
      replace h := bnd2_some h
      obtain ⟨x233, m234, hc232, h⟩ := h
      refine l_callV (pc := 824) (k := 162) (As := [.int x231]) (st := []) F (by first | exact hro | exact hro.less) dL_law_824 (m_X8_append hc232) cv_RL_125 kl_162 ks_162 ⟨_, _, rfl⟩ rfl rfl rfl (Nat.le_of_ble_eq_true rfl) ⟨Nat.le_of_ble_eq_true rfl, Nat.le_of_ble_eq_true rfl⟩ ?_
      clear hc232
      refine a_istore (lv' := [(6, .int x233), (5, .int x228), (0, .ref b), (1, .ref (ga X.G 0)), (2, .ref (ga X.G 162)), (3, .ref (ga X.G 170)), (4, .int i0)]) (pc := 827) F dL_law_827 (by decide) rfl ?_
      refine a_aload_n (pc := 829) F dL_law_829 4 rfl ?_
      replace h := bnd_some h
      obtain ⟨x236, hc235, h⟩ := h
      refine l_callV (pc := 830) (k := 162) (As := []) (st := []) F (by first | exact hro | exact hro.less) dL_law_830 (m_X8_thrown hc235) cv_RL_93 kl_162 ks_162 ⟨_, _, rfl⟩ rfl rfl rfl (Nat.le_of_ble_eq_true rfl) ⟨Nat.le_of_ble_eq_true rfl, Nat.le_of_ble_eq_true rfl⟩ ?_
      clear hc235
      refine a_iload (pc := 833) F dL_law_833 1 rfl ?_
      refine a_icmp_eq (tgt := 840) (pc := 835) F dL_law_835 (by decide) (fun q237 => ?_) (fun q237 => ?_)
      · replace h := ite_t q237 h
        clear q237
        refine a_iload (pc := 840) F dL_law_840 1 rfl ?_
        refine a_if_ne (tgt := 857) (pc := 842) F dL_law_842 (by decide) (fun q238 => ?_) (fun q238 => ?_)
        · replace h := ite_f q238 h
          clear q238
          refine a_goto (tgt := 1642) (pc := 857) F dL_law_857 (by decide) ?_
          obtain ⟨x239, ex239⟩ : ∃ x239 : Int32, x239 = i0 + 5 := ⟨_, rfl⟩
          refine a_iinc (v := x239) (lv' := [(4, .int x239), (6, .int x233), (5, .int x228), (0, .ref b), (1, .ref (ga X.G 0)), (2, .ref (ga X.G 162)), (3, .ref (ga X.G 170))]) (pc := 1642) F dL_law_1642 6 rfl (by rw [ex239]; rfl) (by decide) rfl ?_
          replace h := nm_at ex239 h
          clear ex239
          refine a_goto (tgt := 23) (pc := 1645) F dL_law_1645 (by decide) ?_
          refine a_lv F [3, 4, 5, 6, 0] rfl ?_
          exact hP _ _ _ _ (Option.some.inj h).symm (by omega) (by omega)
        · replace h := ite_t (Decidable.not_not.mp q238) h
          clear q238
          refine a_aload_n (pc := 845) F dL_law_845 5 rfl ?_
          refine a_iconst (v := 0) (pc := 846) F dL_law_846 (by decide) ?_
          refine a_lalc (k := 170) (pc := 847) F dL_law_847 kl_170 ks_170 rfl rfl ?_
          refine a_iload (pc := 848) F dL_law_848 0 rfl ?_
          refine a_i2l (pc := 850) F dL_law_850 ?_
          refine a_lcmp (pc := 851) F dL_law_851 ?_
          refine a_nmi fun x240 ex240 => ?_
          replace h := nm_at ex240 h
          clear ex240
          refine a_if_eq (tgt := 857) (pc := 852) F dL_law_852 (by decide) (fun q241 => ?_) (fun q241 => ?_)
          · replace h := ite_t q241 h
            clear q241
            refine a_goto (tgt := 1642) (pc := 857) F dL_law_857 (by decide) ?_
            obtain ⟨x242, ex242⟩ : ∃ x242 : Int32, x242 = i0 + 5 := ⟨_, rfl⟩
            refine a_iinc (v := x242) (lv' := [(4, .int x242), (6, .int x233), (5, .int x228), (0, .ref b), (1, .ref (ga X.G 0)), (2, .ref (ga X.G 162)), (3, .ref (ga X.G 170))]) (pc := 1642) F dL_law_1642 6 rfl (by rw [ex242]; rfl) (by decide) rfl ?_
            replace h := nm_at ex242 h
            clear ex242
            refine a_goto (tgt := 23) (pc := 1645) F dL_law_1645 (by decide) ?_
            refine a_lv F [3, 4, 5, 6, 0] rfl ?_
            exact hP _ _ _ _ (Option.some.inj h).symm (by omega) (by omega)
          · replace h := ite_f q241 h
            clear q241
            refine a_iconst (v := 0) (pc := 855) F dL_law_855 (by decide) ?_
            cases h
      · replace h := ite_f q237 h
        clear q237
        refine a_iconst (v := 0) (pc := 838) F dL_law_838 (by decide) ?_
        cases h
    replace h := ite_f q224 h
    by_cases q243 : x4 = 10
    · replace h := ite_t q243 h
      refine a_swin (pc := 39) (tgt := 860) F dL_law_39 (by rw [q243]; decide) (by rw [q243]; decide) (by rw [q243]; rfl) (by decide) ?_
      clear q243
      refine a_aload_n (pc := 860) F dL_law_860 1 rfl ?_
      replace h := bnd2_some h
      obtain ⟨x245, m246, hc244, h⟩ := h
      refine l_callV (pc := 861) (k := 0) (As := []) (st := []) F (by first | exact hro | exact hro.less) dL_law_861 (m_X7_clearBuffer hc244) cv_RL_126 kl_0 ks_0 ⟨_, _, rfl⟩ rfl rfl rfl (Nat.le_of_ble_eq_true rfl) ⟨Nat.le_of_ble_eq_true rfl, Nat.le_of_ble_eq_true rfl⟩ ?_
      clear hc244
      refine a_aload_n (pc := 864) F dL_law_864 2 rfl ?_
      replace h := bnd2_some h
      obtain ⟨x248, m249, hc247, h⟩ := h
      refine l_callV (pc := 865) (k := 162) (As := []) (st := [.int x245]) F (by first | exact hro | exact hro.less) dL_law_865 (m_X8_clearBuffer hc247) cv_RL_129 kl_162 ks_162 ⟨_, _, rfl⟩ rfl rfl rfl (Nat.le_of_ble_eq_true rfl) ⟨Nat.le_of_ble_eq_true rfl, Nat.le_of_ble_eq_true rfl⟩ ?_
      clear hc247
      refine a_icmp_eq (tgt := 1642) (pc := 868) F dL_law_868 (by decide) (fun q250 => ?_) (fun q250 => ?_)
      · replace h := ite_t q250 h
        clear q250
        obtain ⟨x251, ex251⟩ : ∃ x251 : Int32, x251 = i0 + 5 := ⟨_, rfl⟩
        refine a_iinc (v := x251) (lv' := [(4, .int x251), (0, .ref b), (1, .ref (ga X.G 0)), (2, .ref (ga X.G 162)), (3, .ref (ga X.G 170))]) (pc := 1642) F dL_law_1642 4 rfl (by rw [ex251]; rfl) (by decide) rfl ?_
        replace h := nm_at ex251 h
        clear ex251
        refine a_goto (tgt := 23) (pc := 1645) F dL_law_1645 (by decide) ?_
        refine a_lv F [1, 2, 3, 4, 0] rfl ?_
        exact hP _ _ _ _ (Option.some.inj h).symm (by omega) (by omega)
      · replace h := ite_f q250 h
        clear q250
        refine a_iconst (v := 0) (pc := 871) F dL_law_871 (by decide) ?_
        cases h
    replace h := ite_f q243 h
    by_cases q252 : x4 = 11
    · replace h := ite_t q252 h
      refine a_swin (pc := 39) (tgt := 873) F dL_law_39 (by rw [q252]; decide) (by rw [q252]; decide) (by rw [q252]; rfl) (by decide) ?_
      clear q252
      refine a_aload_n (pc := 873) F dL_law_873 1 rfl ?_
      replace h := bnd2_some h
      obtain ⟨x254, m255, hc253, h⟩ := h
      refine l_callV (pc := 874) (k := 0) (As := []) (st := []) F (by first | exact hro | exact hro.less) dL_law_874 (m_X7_firstError hc253) cv_RL_130 kl_0 ks_0 ⟨_, _, rfl⟩ rfl rfl rfl (Nat.le_of_ble_eq_true rfl) ⟨Nat.le_of_ble_eq_true rfl, Nat.le_of_ble_eq_true rfl⟩ ?_
      clear hc253
      refine a_aload_n (pc := 877) F dL_law_877 2 rfl ?_
      replace h := bnd2_some h
      obtain ⟨x257, m258, hc256, h⟩ := h
      refine l_callV (pc := 878) (k := 162) (As := []) (st := [.int x254]) F (by first | exact hro | exact hro.less) dL_law_878 (m_X8_firstError hc256) cv_RL_133 kl_162 ks_162 ⟨_, _, rfl⟩ rfl rfl rfl (Nat.le_of_ble_eq_true rfl) ⟨Nat.le_of_ble_eq_true rfl, Nat.le_of_ble_eq_true rfl⟩ ?_
      clear hc256
      refine a_icmp_eq (tgt := 1642) (pc := 881) F dL_law_881 (by decide) (fun q259 => ?_) (fun q259 => ?_)
      · replace h := ite_t q259 h
        clear q259
        obtain ⟨x260, ex260⟩ : ∃ x260 : Int32, x260 = i0 + 5 := ⟨_, rfl⟩
        refine a_iinc (v := x260) (lv' := [(4, .int x260), (0, .ref b), (1, .ref (ga X.G 0)), (2, .ref (ga X.G 162)), (3, .ref (ga X.G 170))]) (pc := 1642) F dL_law_1642 4 rfl (by rw [ex260]; rfl) (by decide) rfl ?_
        replace h := nm_at ex260 h
        clear ex260
        refine a_goto (tgt := 23) (pc := 1645) F dL_law_1645 (by decide) ?_
        refine a_lv F [1, 2, 3, 4, 0] rfl ?_
        exact hP _ _ _ _ (Option.some.inj h).symm (by omega) (by omega)
      · replace h := ite_f q259 h
        clear q259
        refine a_iconst (v := 0) (pc := 884) F dL_law_884 (by decide) ?_
        cases h
    replace h := ite_f q252 h
    by_cases q261 : x4 = 12
    · replace h := ite_t q261 h
      refine a_swin (pc := 39) (tgt := 886) F dL_law_39 (by rw [q261]; decide) (by rw [q261]; decide) (by rw [q261]; rfl) (by decide) ?_
      clear q261
      refine a_aload_n (pc := 886) F dL_law_886 1 rfl ?_
      refine a_aload_n (pc := 887) F dL_law_887 3 rfl ?_
      replace h := bnd2_some h
      obtain ⟨x263, m264, hc262, h⟩ := h
      refine l_callW (pc := 888) (As := [.ref (ga X.G 0), .ref (ga X.G 170)]) (st := []) F hro dL_law_888 (mw_L_addList hc262) cwl_134 rfl rfl rfl (Nat.le_of_ble_eq_true rfl) ⟨Nat.le_of_ble_eq_true rfl, Nat.le_of_ble_eq_true rfl⟩ ?_
      clear hc262
      refine a_istore (lv' := [(5, .int x263), (0, .ref b), (1, .ref (ga X.G 0)), (2, .ref (ga X.G 162)), (3, .ref (ga X.G 170)), (4, .int i0)]) (pc := 891) F dL_law_891 (by decide) rfl ?_
      refine a_aload_n (pc := 893) F dL_law_893 3 rfl ?_
      replace h := bnd2_some h
      obtain ⟨x266, m267, hc265, h⟩ := h
      refine l_callV (pc := 894) (k := 162) (As := []) (st := []) F (by first | exact hro | exact hro.less) dL_law_894 (m_X8_addList hc265) cv_RL_137 kl_162 ks_162 ⟨_, _, rfl⟩ rfl rfl rfl (Nat.le_of_ble_eq_true rfl) ⟨Nat.le_of_ble_eq_true rfl, Nat.le_of_ble_eq_true rfl⟩ ?_
      clear hc265
      refine a_istore (lv' := [(6, .int x266), (5, .int x263), (0, .ref b), (1, .ref (ga X.G 0)), (2, .ref (ga X.G 162)), (3, .ref (ga X.G 170)), (4, .int i0)]) (pc := 897) F dL_law_897 (by decide) rfl ?_
      refine a_aload_n (pc := 899) F dL_law_899 4 rfl ?_
      replace h := bnd_some h
      obtain ⟨x269, hc268, h⟩ := h
      refine l_callV (pc := 900) (k := 162) (As := []) (st := []) F (by first | exact hro | exact hro.less) dL_law_900 (m_X8_thrown hc268) cv_RL_93 kl_162 ks_162 ⟨_, _, rfl⟩ rfl rfl rfl (Nat.le_of_ble_eq_true rfl) ⟨Nat.le_of_ble_eq_true rfl, Nat.le_of_ble_eq_true rfl⟩ ?_
      clear hc268
      refine a_iload (pc := 903) F dL_law_903 1 rfl ?_
      refine a_icmp_eq (tgt := 910) (pc := 905) F dL_law_905 (by decide) (fun q270 => ?_) (fun q270 => ?_)
      · replace h := ite_t q270 h
        clear q270
        refine a_iload (pc := 910) F dL_law_910 1 rfl ?_
        refine a_if_ne (tgt := 927) (pc := 912) F dL_law_912 (by decide) (fun q271 => ?_) (fun q271 => ?_)
        · replace h := ite_f q271 h
          clear q271
          refine a_goto (tgt := 1642) (pc := 927) F dL_law_927 (by decide) ?_
          obtain ⟨x272, ex272⟩ : ∃ x272 : Int32, x272 = i0 + 5 := ⟨_, rfl⟩
          refine a_iinc (v := x272) (lv' := [(4, .int x272), (6, .int x266), (5, .int x263), (0, .ref b), (1, .ref (ga X.G 0)), (2, .ref (ga X.G 162)), (3, .ref (ga X.G 170))]) (pc := 1642) F dL_law_1642 6 rfl (by rw [ex272]; rfl) (by decide) rfl ?_
          replace h := nm_at ex272 h
          clear ex272
          refine a_goto (tgt := 23) (pc := 1645) F dL_law_1645 (by decide) ?_
          refine a_lv F [3, 4, 5, 6, 0] rfl ?_
          exact hP _ _ _ _ (Option.some.inj h).symm (by omega) (by omega)
        · replace h := ite_t (Decidable.not_not.mp q271) h
          clear q271
          refine a_aload_n (pc := 915) F dL_law_915 5 rfl ?_
          refine a_iconst (v := 0) (pc := 916) F dL_law_916 (by decide) ?_
          refine a_lalc (k := 170) (pc := 917) F dL_law_917 kl_170 ks_170 rfl rfl ?_
          refine a_iload (pc := 918) F dL_law_918 0 rfl ?_
          refine a_i2l (pc := 920) F dL_law_920 ?_
          refine a_lcmp (pc := 921) F dL_law_921 ?_
          refine a_nmi fun x273 ex273 => ?_
          replace h := nm_at ex273 h
          clear ex273
          refine a_if_eq (tgt := 927) (pc := 922) F dL_law_922 (by decide) (fun q274 => ?_) (fun q274 => ?_)
          · replace h := ite_t q274 h
            clear q274
            refine a_goto (tgt := 1642) (pc := 927) F dL_law_927 (by decide) ?_
            obtain ⟨x275, ex275⟩ : ∃ x275 : Int32, x275 = i0 + 5 := ⟨_, rfl⟩
            refine a_iinc (v := x275) (lv' := [(4, .int x275), (6, .int x266), (5, .int x263), (0, .ref b), (1, .ref (ga X.G 0)), (2, .ref (ga X.G 162)), (3, .ref (ga X.G 170))]) (pc := 1642) F dL_law_1642 6 rfl (by rw [ex275]; rfl) (by decide) rfl ?_
            replace h := nm_at ex275 h
            clear ex275
            refine a_goto (tgt := 23) (pc := 1645) F dL_law_1645 (by decide) ?_
            refine a_lv F [3, 4, 5, 6, 0] rfl ?_
            exact hP _ _ _ _ (Option.some.inj h).symm (by omega) (by omega)
          · replace h := ite_f q274 h
            clear q274
            refine a_iconst (v := 0) (pc := 925) F dL_law_925 (by decide) ?_
            cases h
      · replace h := ite_f q270 h
        clear q270
        refine a_iconst (v := 0) (pc := 908) F dL_law_908 (by decide) ?_
        cases h
    replace h := ite_f q261 h
    by_cases q276 : x4 = 13
    · replace h := ite_t q276 h
      refine a_swin (pc := 39) (tgt := 930) F dL_law_39 (by rw [q276]; decide) (by rw [q276]; decide) (by rw [q276]; rfl) (by decide) ?_
      clear q276
      refine a_aload_n (pc := 930) F dL_law_930 1 rfl ?_
      refine a_aload_n (pc := 931) F dL_law_931 3 rfl ?_
      replace h := bnd2_some h
      obtain ⟨x278, m279, hc277, h⟩ := h
      refine l_callW (pc := 932) (As := [.ref (ga X.G 0), .ref (ga X.G 170)]) (st := []) F hro dL_law_932 (mw_L_undo hc277) cwl_138 rfl rfl rfl (Nat.le_of_ble_eq_true rfl) ⟨Nat.le_of_ble_eq_true rfl, Nat.le_of_ble_eq_true rfl⟩ ?_
      clear hc277
      refine a_istore (lv' := [(5, .int x278), (0, .ref b), (1, .ref (ga X.G 0)), (2, .ref (ga X.G 162)), (3, .ref (ga X.G 170)), (4, .int i0)]) (pc := 935) F dL_law_935 (by decide) rfl ?_
      refine a_aload_n (pc := 937) F dL_law_937 3 rfl ?_
      replace h := bnd2_some h
      obtain ⟨x281, m282, hc280, h⟩ := h
      refine l_callV (pc := 938) (k := 162) (As := []) (st := []) F (by first | exact hro | exact hro.less) dL_law_938 (m_X8_undo hc280) cv_RL_140 kl_162 ks_162 ⟨_, _, rfl⟩ rfl rfl rfl (Nat.le_of_ble_eq_true rfl) ⟨Nat.le_of_ble_eq_true rfl, Nat.le_of_ble_eq_true rfl⟩ ?_
      clear hc280
      refine a_istore (lv' := [(6, .int x281), (5, .int x278), (0, .ref b), (1, .ref (ga X.G 0)), (2, .ref (ga X.G 162)), (3, .ref (ga X.G 170)), (4, .int i0)]) (pc := 941) F dL_law_941 (by decide) rfl ?_
      refine a_aload_n (pc := 943) F dL_law_943 4 rfl ?_
      replace h := bnd_some h
      obtain ⟨x284, hc283, h⟩ := h
      refine l_callV (pc := 944) (k := 162) (As := []) (st := []) F (by first | exact hro | exact hro.less) dL_law_944 (m_X8_thrown hc283) cv_RL_93 kl_162 ks_162 ⟨_, _, rfl⟩ rfl rfl rfl (Nat.le_of_ble_eq_true rfl) ⟨Nat.le_of_ble_eq_true rfl, Nat.le_of_ble_eq_true rfl⟩ ?_
      clear hc283
      refine a_iload (pc := 947) F dL_law_947 1 rfl ?_
      refine a_icmp_eq (tgt := 954) (pc := 949) F dL_law_949 (by decide) (fun q285 => ?_) (fun q285 => ?_)
      · replace h := ite_t q285 h
        clear q285
        refine a_iload (pc := 954) F dL_law_954 1 rfl ?_
        refine a_if_ne (tgt := 971) (pc := 956) F dL_law_956 (by decide) (fun q286 => ?_) (fun q286 => ?_)
        · replace h := ite_f q286 h
          clear q286
          refine a_goto (tgt := 1642) (pc := 971) F dL_law_971 (by decide) ?_
          obtain ⟨x287, ex287⟩ : ∃ x287 : Int32, x287 = i0 + 5 := ⟨_, rfl⟩
          refine a_iinc (v := x287) (lv' := [(4, .int x287), (6, .int x281), (5, .int x278), (0, .ref b), (1, .ref (ga X.G 0)), (2, .ref (ga X.G 162)), (3, .ref (ga X.G 170))]) (pc := 1642) F dL_law_1642 6 rfl (by rw [ex287]; rfl) (by decide) rfl ?_
          replace h := nm_at ex287 h
          clear ex287
          refine a_goto (tgt := 23) (pc := 1645) F dL_law_1645 (by decide) ?_
          refine a_lv F [3, 4, 5, 6, 0] rfl ?_
          exact hP _ _ _ _ (Option.some.inj h).symm (by omega) (by omega)
        · replace h := ite_t (Decidable.not_not.mp q286) h
          clear q286
          refine a_aload_n (pc := 959) F dL_law_959 5 rfl ?_
          refine a_iconst (v := 0) (pc := 960) F dL_law_960 (by decide) ?_
          refine a_lalc (k := 170) (pc := 961) F dL_law_961 kl_170 ks_170 rfl rfl ?_
          refine a_iload (pc := 962) F dL_law_962 0 rfl ?_
          refine a_i2l (pc := 964) F dL_law_964 ?_
          refine a_lcmp (pc := 965) F dL_law_965 ?_
          refine a_nmi fun x288 ex288 => ?_
          replace h := nm_at ex288 h
          clear ex288
          refine a_if_eq (tgt := 971) (pc := 966) F dL_law_966 (by decide) (fun q289 => ?_) (fun q289 => ?_)
          · replace h := ite_t q289 h
            clear q289
            refine a_goto (tgt := 1642) (pc := 971) F dL_law_971 (by decide) ?_
            obtain ⟨x290, ex290⟩ : ∃ x290 : Int32, x290 = i0 + 5 := ⟨_, rfl⟩
            refine a_iinc (v := x290) (lv' := [(4, .int x290), (6, .int x281), (5, .int x278), (0, .ref b), (1, .ref (ga X.G 0)), (2, .ref (ga X.G 162)), (3, .ref (ga X.G 170))]) (pc := 1642) F dL_law_1642 6 rfl (by rw [ex290]; rfl) (by decide) rfl ?_
            replace h := nm_at ex290 h
            clear ex290
            refine a_goto (tgt := 23) (pc := 1645) F dL_law_1645 (by decide) ?_
            refine a_lv F [3, 4, 5, 6, 0] rfl ?_
            exact hP _ _ _ _ (Option.some.inj h).symm (by omega) (by omega)
          · replace h := ite_f q289 h
            clear q289
            refine a_iconst (v := 0) (pc := 969) F dL_law_969 (by decide) ?_
            cases h
      · replace h := ite_f q285 h
        clear q285
        refine a_iconst (v := 0) (pc := 952) F dL_law_952 (by decide) ?_
        cases h
    replace h := ite_f q276 h
    by_cases q291 : x4 = 14
    · replace h := ite_t q291 h
      refine a_swin (pc := 39) (tgt := 974) F dL_law_39 (by rw [q291]; decide) (by rw [q291]; decide) (by rw [q291]; rfl) (by decide) ?_
      clear q291
      refine a_aload_n (pc := 974) F dL_law_974 1 rfl ?_
      refine a_aload_n (pc := 975) F dL_law_975 0 rfl ?_
      refine a_iload (pc := 976) F dL_law_976 4 rfl ?_
      refine a_iconst (v := 1) (pc := 978) F dL_law_978 (by decide) ?_
      refine a_iadd (pc := 979) F dL_law_979 ?_
      replace h := gIn_some h
      obtain ⟨g292, h⟩ := h
      refine l_sld (pc := 980) F S dL_law_980 g292 ?_
      refine a_nmi fun x293 ex293 => ?_
      replace h := nm_at ex293 h
      clear ex293
      refine a_aload_n (pc := 981) F dL_law_981 0 rfl ?_
      refine a_iload (pc := 982) F dL_law_982 4 rfl ?_
      refine a_iconst (v := 2) (pc := 984) F dL_law_984 (by decide) ?_
      refine a_iadd (pc := 985) F dL_law_985 ?_
      replace h := gIn_some h
      obtain ⟨g294, h⟩ := h
      refine l_sld (pc := 986) F S dL_law_986 g294 ?_
      refine a_nmi fun x295 ex295 => ?_
      replace h := nm_at ex295 h
      clear ex295
      refine a_aload_n (pc := 987) F dL_law_987 3 rfl ?_
      replace h := bnd2_some h
      obtain ⟨x297, m298, hc296, h⟩ := h
      refine l_callW (pc := 988) (As := [.ref (ga X.G 0), .int x293, .int x295, .ref (ga X.G 170)]) (st := []) F hro dL_law_988 (mw_L_interpreter hc296) cwl_141 rfl rfl rfl (Nat.le_of_ble_eq_true rfl) ⟨Nat.le_of_ble_eq_true rfl, Nat.le_of_ble_eq_true rfl⟩ ?_
      clear hc296
      refine a_istore (lv' := [(5, .int x297), (0, .ref b), (1, .ref (ga X.G 0)), (2, .ref (ga X.G 162)), (3, .ref (ga X.G 170)), (4, .int i0)]) (pc := 991) F dL_law_991 (by decide) rfl ?_
      refine a_aload_n (pc := 993) F dL_law_993 3 rfl ?_
      refine a_aload_n (pc := 994) F dL_law_994 1 rfl ?_
      refine a_iload (pc := 995) F dL_law_995 5 rfl ?_
      refine a_iconst (v := 1) (pc := 997) F dL_law_997 (by decide) ?_
      refine a_iadd (pc := 998) F dL_law_998 ?_
      replace h := gIn_some h
      obtain ⟨g299, h⟩ := h
      refine l_sld (pc := 999) F S dL_law_999 g299 ?_
      refine a_nmi fun x300 ex300 => ?_
      replace h := nm_at ex300 h
      clear ex300
      refine a_aload_n (pc := 1000) F dL_law_1000 1 rfl ?_
      refine a_iload (pc := 1001) F dL_law_1001 5 rfl ?_
      refine a_iconst (v := 2) (pc := 1003) F dL_law_1003 (by decide) ?_
      refine a_iadd (pc := 1004) F dL_law_1004 ?_
      replace h := gIn_some h
      obtain ⟨g301, h⟩ := h
      refine l_sld (pc := 1005) F S dL_law_1005 g301 ?_
      refine a_nmi fun x302 ex302 => ?_
      replace h := nm_at ex302 h
      clear ex302
      replace h := bnd2_some h
      obtain ⟨x304, m305, hc303, h⟩ := h
      refine l_callV (pc := 1006) (k := 162) (As := [.int x300, .int x302]) (st := []) F (by first | exact hro | exact hro.less) dL_law_1006 (m_X8_interpreter hc303) cv_RL_143 kl_162 ks_162 ⟨_, _, rfl⟩ rfl rfl rfl (Nat.le_of_ble_eq_true rfl) ⟨Nat.le_of_ble_eq_true rfl, Nat.le_of_ble_eq_true rfl⟩ ?_
      clear hc303
      refine a_istore (lv' := [(6, .int x304), (5, .int x297), (0, .ref b), (1, .ref (ga X.G 0)), (2, .ref (ga X.G 162)), (3, .ref (ga X.G 170)), (4, .int i0)]) (pc := 1009) F dL_law_1009 (by decide) rfl ?_
      refine a_aload_n (pc := 1011) F dL_law_1011 4 rfl ?_
      replace h := bnd_some h
      obtain ⟨x307, hc306, h⟩ := h
      refine l_callV (pc := 1012) (k := 162) (As := []) (st := []) F (by first | exact hro | exact hro.less) dL_law_1012 (m_X8_thrown hc306) cv_RL_93 kl_162 ks_162 ⟨_, _, rfl⟩ rfl rfl rfl (Nat.le_of_ble_eq_true rfl) ⟨Nat.le_of_ble_eq_true rfl, Nat.le_of_ble_eq_true rfl⟩ ?_
      clear hc306
      refine a_iload (pc := 1015) F dL_law_1015 1 rfl ?_
      refine a_icmp_eq (tgt := 1022) (pc := 1017) F dL_law_1017 (by decide) (fun q308 => ?_) (fun q308 => ?_)
      · replace h := ite_t q308 h
        clear q308
        refine a_iload (pc := 1022) F dL_law_1022 1 rfl ?_
        refine a_if_ne (tgt := 1039) (pc := 1024) F dL_law_1024 (by decide) (fun q309 => ?_) (fun q309 => ?_)
        · replace h := ite_f q309 h
          clear q309
          refine a_goto (tgt := 1642) (pc := 1039) F dL_law_1039 (by decide) ?_
          obtain ⟨x310, ex310⟩ : ∃ x310 : Int32, x310 = i0 + 5 := ⟨_, rfl⟩
          refine a_iinc (v := x310) (lv' := [(4, .int x310), (6, .int x304), (5, .int x297), (0, .ref b), (1, .ref (ga X.G 0)), (2, .ref (ga X.G 162)), (3, .ref (ga X.G 170))]) (pc := 1642) F dL_law_1642 6 rfl (by rw [ex310]; rfl) (by decide) rfl ?_
          replace h := nm_at ex310 h
          clear ex310
          refine a_goto (tgt := 23) (pc := 1645) F dL_law_1645 (by decide) ?_
          refine a_lv F [3, 4, 5, 6, 0] rfl ?_
          exact hP _ _ _ _ (Option.some.inj h).symm (by omega) (by omega)
        · replace h := ite_t (Decidable.not_not.mp q309) h
          clear q309
          refine a_aload_n (pc := 1027) F dL_law_1027 5 rfl ?_
          refine a_iconst (v := 0) (pc := 1028) F dL_law_1028 (by decide) ?_
          refine a_lalc (k := 170) (pc := 1029) F dL_law_1029 kl_170 ks_170 rfl rfl ?_
          refine a_iload (pc := 1030) F dL_law_1030 0 rfl ?_
          refine a_i2l (pc := 1032) F dL_law_1032 ?_
          refine a_lcmp (pc := 1033) F dL_law_1033 ?_
          refine a_nmi fun x311 ex311 => ?_
          replace h := nm_at ex311 h
          clear ex311
          refine a_if_eq (tgt := 1039) (pc := 1034) F dL_law_1034 (by decide) (fun q312 => ?_) (fun q312 => ?_)
          · replace h := ite_t q312 h
            clear q312
            refine a_goto (tgt := 1642) (pc := 1039) F dL_law_1039 (by decide) ?_
            obtain ⟨x313, ex313⟩ : ∃ x313 : Int32, x313 = i0 + 5 := ⟨_, rfl⟩
            refine a_iinc (v := x313) (lv' := [(4, .int x313), (6, .int x304), (5, .int x297), (0, .ref b), (1, .ref (ga X.G 0)), (2, .ref (ga X.G 162)), (3, .ref (ga X.G 170))]) (pc := 1642) F dL_law_1642 6 rfl (by rw [ex313]; rfl) (by decide) rfl ?_
            replace h := nm_at ex313 h
            clear ex313
            refine a_goto (tgt := 23) (pc := 1645) F dL_law_1645 (by decide) ?_
            refine a_lv F [3, 4, 5, 6, 0] rfl ?_
            exact hP _ _ _ _ (Option.some.inj h).symm (by omega) (by omega)
          · replace h := ite_f q312 h
            clear q312
            refine a_iconst (v := 0) (pc := 1037) F dL_law_1037 (by decide) ?_
            cases h
      · replace h := ite_f q308 h
        clear q308
        refine a_iconst (v := 0) (pc := 1020) F dL_law_1020 (by decide) ?_
        cases h
    replace h := ite_f q291 h
    by_cases q314 : x4 = 15
    · replace h := ite_t q314 h
      refine a_swin (pc := 39) (tgt := 1042) F dL_law_39 (by rw [q314]; decide) (by rw [q314]; decide) (by rw [q314]; rfl) (by decide) ?_
      clear q314
      refine a_aload_n (pc := 1042) F dL_law_1042 1 rfl ?_
      refine a_aload_n (pc := 1043) F dL_law_1043 0 rfl ?_
      refine a_iload (pc := 1044) F dL_law_1044 4 rfl ?_
      refine a_iconst (v := 1) (pc := 1046) F dL_law_1046 (by decide) ?_
      refine a_iadd (pc := 1047) F dL_law_1047 ?_
      replace h := gIn_some h
      obtain ⟨g315, h⟩ := h
      refine l_sld (pc := 1048) F S dL_law_1048 g315 ?_
      refine a_nmi fun x316 ex316 => ?_
      replace h := nm_at ex316 h
      clear ex316
      refine a_aload_n (pc := 1049) F dL_law_1049 0 rfl ?_
      refine a_iload (pc := 1050) F dL_law_1050 4 rfl ?_
      refine a_iconst (v := 2) (pc := 1052) F dL_law_1052 (by decide) ?_
      refine a_iadd (pc := 1053) F dL_law_1053 ?_
      replace h := gIn_some h
      obtain ⟨g317, h⟩ := h
      refine l_sld (pc := 1054) F S dL_law_1054 g317 ?_
      refine a_nmi fun x318 ex318 => ?_
      replace h := nm_at ex318 h
      clear ex318
      refine a_aload_n (pc := 1055) F dL_law_1055 3 rfl ?_
      replace h := bnd2_some h
      obtain ⟨x320, m321, hc319, h⟩ := h
      refine l_callW (pc := 1056) (As := [.ref (ga X.G 0), .int x316, .int x318, .ref (ga X.G 170)]) (st := []) F hro dL_law_1056 (mw_L_hearing hc319) cwl_144 rfl rfl rfl (Nat.le_of_ble_eq_true rfl) ⟨Nat.le_of_ble_eq_true rfl, Nat.le_of_ble_eq_true rfl⟩ ?_
      clear hc319
      refine a_istore (lv' := [(5, .int x320), (0, .ref b), (1, .ref (ga X.G 0)), (2, .ref (ga X.G 162)), (3, .ref (ga X.G 170)), (4, .int i0)]) (pc := 1059) F dL_law_1059 (by decide) rfl ?_
      refine a_aload_n (pc := 1061) F dL_law_1061 3 rfl ?_
      refine a_aload_n (pc := 1062) F dL_law_1062 1 rfl ?_
      refine a_iload (pc := 1063) F dL_law_1063 5 rfl ?_
      refine a_iconst (v := 1) (pc := 1065) F dL_law_1065 (by decide) ?_
      refine a_iadd (pc := 1066) F dL_law_1066 ?_
      replace h := gIn_some h
      obtain ⟨g322, h⟩ := h
      refine l_sld (pc := 1067) F S dL_law_1067 g322 ?_
      refine a_nmi fun x323 ex323 => ?_
      replace h := nm_at ex323 h
      clear ex323
      refine a_aload_n (pc := 1068) F dL_law_1068 1 rfl ?_
      refine a_iload (pc := 1069) F dL_law_1069 5 rfl ?_
      refine a_iconst (v := 2) (pc := 1071) F dL_law_1071 (by decide) ?_
      refine a_iadd (pc := 1072) F dL_law_1072 ?_
      replace h := gIn_some h
      obtain ⟨g324, h⟩ := h
      refine l_sld (pc := 1073) F S dL_law_1073 g324 ?_
      refine a_nmi fun x325 ex325 => ?_
      replace h := nm_at ex325 h
      clear ex325
      replace h := bnd2_some h
      obtain ⟨x327, m328, hc326, h⟩ := h
      refine l_callV (pc := 1074) (k := 162) (As := [.int x323, .int x325]) (st := []) F (by first | exact hro | exact hro.less) dL_law_1074 (m_X8_hearing hc326) cv_RL_146 kl_162 ks_162 ⟨_, _, rfl⟩ rfl rfl rfl (Nat.le_of_ble_eq_true rfl) ⟨Nat.le_of_ble_eq_true rfl, Nat.le_of_ble_eq_true rfl⟩ ?_
      clear hc326
      refine a_istore (lv' := [(6, .int x327), (5, .int x320), (0, .ref b), (1, .ref (ga X.G 0)), (2, .ref (ga X.G 162)), (3, .ref (ga X.G 170)), (4, .int i0)]) (pc := 1077) F dL_law_1077 (by decide) rfl ?_
      refine a_aload_n (pc := 1079) F dL_law_1079 4 rfl ?_
      replace h := bnd_some h
      obtain ⟨x330, hc329, h⟩ := h
      refine l_callV (pc := 1080) (k := 162) (As := []) (st := []) F (by first | exact hro | exact hro.less) dL_law_1080 (m_X8_thrown hc329) cv_RL_93 kl_162 ks_162 ⟨_, _, rfl⟩ rfl rfl rfl (Nat.le_of_ble_eq_true rfl) ⟨Nat.le_of_ble_eq_true rfl, Nat.le_of_ble_eq_true rfl⟩ ?_
      clear hc329
      refine a_iload (pc := 1083) F dL_law_1083 1 rfl ?_
      refine a_icmp_eq (tgt := 1090) (pc := 1085) F dL_law_1085 (by decide) (fun q331 => ?_) (fun q331 => ?_)
      · replace h := ite_t q331 h
        clear q331
        refine a_iload (pc := 1090) F dL_law_1090 1 rfl ?_
        refine a_if_ne (tgt := 1107) (pc := 1092) F dL_law_1092 (by decide) (fun q332 => ?_) (fun q332 => ?_)
        · replace h := ite_f q332 h
          clear q332
          refine a_goto (tgt := 1642) (pc := 1107) F dL_law_1107 (by decide) ?_
          obtain ⟨x333, ex333⟩ : ∃ x333 : Int32, x333 = i0 + 5 := ⟨_, rfl⟩
          refine a_iinc (v := x333) (lv' := [(4, .int x333), (6, .int x327), (5, .int x320), (0, .ref b), (1, .ref (ga X.G 0)), (2, .ref (ga X.G 162)), (3, .ref (ga X.G 170))]) (pc := 1642) F dL_law_1642 6 rfl (by rw [ex333]; rfl) (by decide) rfl ?_
          replace h := nm_at ex333 h
          clear ex333
          refine a_goto (tgt := 23) (pc := 1645) F dL_law_1645 (by decide) ?_
          refine a_lv F [3, 4, 5, 6, 0] rfl ?_
          exact hP _ _ _ _ (Option.some.inj h).symm (by omega) (by omega)
        · replace h := ite_t (Decidable.not_not.mp q332) h
          clear q332
          refine a_aload_n (pc := 1095) F dL_law_1095 5 rfl ?_
          refine a_iconst (v := 0) (pc := 1096) F dL_law_1096 (by decide) ?_
          refine a_lalc (k := 170) (pc := 1097) F dL_law_1097 kl_170 ks_170 rfl rfl ?_
          refine a_iload (pc := 1098) F dL_law_1098 0 rfl ?_
          refine a_i2l (pc := 1100) F dL_law_1100 ?_
          refine a_lcmp (pc := 1101) F dL_law_1101 ?_
          refine a_nmi fun x334 ex334 => ?_
          replace h := nm_at ex334 h
          clear ex334
          refine a_if_eq (tgt := 1107) (pc := 1102) F dL_law_1102 (by decide) (fun q335 => ?_) (fun q335 => ?_)
          · replace h := ite_t q335 h
            clear q335
            refine a_goto (tgt := 1642) (pc := 1107) F dL_law_1107 (by decide) ?_
            obtain ⟨x336, ex336⟩ : ∃ x336 : Int32, x336 = i0 + 5 := ⟨_, rfl⟩
            refine a_iinc (v := x336) (lv' := [(4, .int x336), (6, .int x327), (5, .int x320), (0, .ref b), (1, .ref (ga X.G 0)), (2, .ref (ga X.G 162)), (3, .ref (ga X.G 170))]) (pc := 1642) F dL_law_1642 6 rfl (by rw [ex336]; rfl) (by decide) rfl ?_
            replace h := nm_at ex336 h
            clear ex336
            refine a_goto (tgt := 23) (pc := 1645) F dL_law_1645 (by decide) ?_
            refine a_lv F [3, 4, 5, 6, 0] rfl ?_
            exact hP _ _ _ _ (Option.some.inj h).symm (by omega) (by omega)
          · replace h := ite_f q335 h
            clear q335
            refine a_iconst (v := 0) (pc := 1105) F dL_law_1105 (by decide) ?_
            cases h
      · replace h := ite_f q331 h
        clear q331
        refine a_iconst (v := 0) (pc := 1088) F dL_law_1088 (by decide) ?_
        cases h
    replace h := ite_f q314 h
    by_cases q337 : x4 = 16
    · replace h := ite_t q337 h
      refine a_swin (pc := 39) (tgt := 1110) F dL_law_39 (by rw [q337]; decide) (by rw [q337]; decide) (by rw [q337]; rfl) (by decide) ?_
      clear q337
      refine a_aload_n (pc := 1110) F dL_law_1110 1 rfl ?_
      refine a_aload_n (pc := 1111) F dL_law_1111 0 rfl ?_
      refine a_iload (pc := 1112) F dL_law_1112 4 rfl ?_
      refine a_iconst (v := 1) (pc := 1114) F dL_law_1114 (by decide) ?_
      refine a_iadd (pc := 1115) F dL_law_1115 ?_
      replace h := gIn_some h
      obtain ⟨g338, h⟩ := h
      refine l_sld (pc := 1116) F S dL_law_1116 g338 ?_
      refine a_nmi fun x339 ex339 => ?_
      replace h := nm_at ex339 h
      clear ex339
      refine a_aload_n (pc := 1117) F dL_law_1117 3 rfl ?_
      replace h := bnd2_some h
      obtain ⟨x341, m342, hc340, h⟩ := h
      refine l_callW (pc := 1118) (As := [.ref (ga X.G 0), .int x339, .ref (ga X.G 170)]) (st := []) F hro dL_law_1118 (mw_L_count hc340) cwl_147 rfl rfl rfl (Nat.le_of_ble_eq_true rfl) ⟨Nat.le_of_ble_eq_true rfl, Nat.le_of_ble_eq_true rfl⟩ ?_
      clear hc340
      refine a_istore (lv' := [(5, .int x341), (0, .ref b), (1, .ref (ga X.G 0)), (2, .ref (ga X.G 162)), (3, .ref (ga X.G 170)), (4, .int i0)]) (pc := 1121) F dL_law_1121 (by decide) rfl ?_
      refine a_aload_n (pc := 1123) F dL_law_1123 3 rfl ?_
      refine a_aload_n (pc := 1124) F dL_law_1124 1 rfl ?_
      refine a_iload (pc := 1125) F dL_law_1125 5 rfl ?_
      refine a_iconst (v := 1) (pc := 1127) F dL_law_1127 (by decide) ?_
      refine a_iadd (pc := 1128) F dL_law_1128 ?_
      replace h := gIn_some h
      obtain ⟨g343, h⟩ := h
      refine l_sld (pc := 1129) F S dL_law_1129 g343 ?_
      refine a_nmi fun x344 ex344 => ?_
      replace h := nm_at ex344 h
      clear ex344
      replace h := bnd2_some h
      obtain ⟨x346, m347, hc345, h⟩ := h
      refine l_callV (pc := 1130) (k := 162) (As := [.int x344]) (st := []) F (by first | exact hro | exact hro.less) dL_law_1130 (m_X8_count hc345) cv_RL_149 kl_162 ks_162 ⟨_, _, rfl⟩ rfl rfl rfl (Nat.le_of_ble_eq_true rfl) ⟨Nat.le_of_ble_eq_true rfl, Nat.le_of_ble_eq_true rfl⟩ ?_
      clear hc345
      refine a_istore (lv' := [(6, .int x346), (5, .int x341), (0, .ref b), (1, .ref (ga X.G 0)), (2, .ref (ga X.G 162)), (3, .ref (ga X.G 170)), (4, .int i0)]) (pc := 1133) F dL_law_1133 (by decide) rfl ?_
      refine a_aload_n (pc := 1135) F dL_law_1135 4 rfl ?_
      replace h := bnd_some h
      obtain ⟨x349, hc348, h⟩ := h
      refine l_callV (pc := 1136) (k := 162) (As := []) (st := []) F (by first | exact hro | exact hro.less) dL_law_1136 (m_X8_thrown hc348) cv_RL_93 kl_162 ks_162 ⟨_, _, rfl⟩ rfl rfl rfl (Nat.le_of_ble_eq_true rfl) ⟨Nat.le_of_ble_eq_true rfl, Nat.le_of_ble_eq_true rfl⟩ ?_
      clear hc348
      refine a_iload (pc := 1139) F dL_law_1139 1 rfl ?_
      refine a_icmp_eq (tgt := 1146) (pc := 1141) F dL_law_1141 (by decide) (fun q350 => ?_) (fun q350 => ?_)
      · replace h := ite_t q350 h
        clear q350
        refine a_iload (pc := 1146) F dL_law_1146 1 rfl ?_
        refine a_if_ne (tgt := 1163) (pc := 1148) F dL_law_1148 (by decide) (fun q351 => ?_) (fun q351 => ?_)
        · replace h := ite_f q351 h
          clear q351
          refine a_goto (tgt := 1642) (pc := 1163) F dL_law_1163 (by decide) ?_
          obtain ⟨x352, ex352⟩ : ∃ x352 : Int32, x352 = i0 + 5 := ⟨_, rfl⟩
          refine a_iinc (v := x352) (lv' := [(4, .int x352), (6, .int x346), (5, .int x341), (0, .ref b), (1, .ref (ga X.G 0)), (2, .ref (ga X.G 162)), (3, .ref (ga X.G 170))]) (pc := 1642) F dL_law_1642 6 rfl (by rw [ex352]; rfl) (by decide) rfl ?_
          replace h := nm_at ex352 h
          clear ex352
          refine a_goto (tgt := 23) (pc := 1645) F dL_law_1645 (by decide) ?_
          refine a_lv F [3, 4, 5, 6, 0] rfl ?_
          exact hP _ _ _ _ (Option.some.inj h).symm (by omega) (by omega)
        · replace h := ite_t (Decidable.not_not.mp q351) h
          clear q351
          refine a_aload_n (pc := 1151) F dL_law_1151 5 rfl ?_
          refine a_iconst (v := 0) (pc := 1152) F dL_law_1152 (by decide) ?_
          refine a_lalc (k := 170) (pc := 1153) F dL_law_1153 kl_170 ks_170 rfl rfl ?_
          refine a_iload (pc := 1154) F dL_law_1154 0 rfl ?_
          refine a_i2l (pc := 1156) F dL_law_1156 ?_
          refine a_lcmp (pc := 1157) F dL_law_1157 ?_
          refine a_nmi fun x353 ex353 => ?_
          replace h := nm_at ex353 h
          clear ex353
          refine a_if_eq (tgt := 1163) (pc := 1158) F dL_law_1158 (by decide) (fun q354 => ?_) (fun q354 => ?_)
          · replace h := ite_t q354 h
            clear q354
            refine a_goto (tgt := 1642) (pc := 1163) F dL_law_1163 (by decide) ?_
            obtain ⟨x355, ex355⟩ : ∃ x355 : Int32, x355 = i0 + 5 := ⟨_, rfl⟩
            refine a_iinc (v := x355) (lv' := [(4, .int x355), (6, .int x346), (5, .int x341), (0, .ref b), (1, .ref (ga X.G 0)), (2, .ref (ga X.G 162)), (3, .ref (ga X.G 170))]) (pc := 1642) F dL_law_1642 6 rfl (by rw [ex355]; rfl) (by decide) rfl ?_
            replace h := nm_at ex355 h
            clear ex355
            refine a_goto (tgt := 23) (pc := 1645) F dL_law_1645 (by decide) ?_
            refine a_lv F [3, 4, 5, 6, 0] rfl ?_
            exact hP _ _ _ _ (Option.some.inj h).symm (by omega) (by omega)
          · replace h := ite_f q354 h
            clear q354
            refine a_iconst (v := 0) (pc := 1161) F dL_law_1161 (by decide) ?_
            cases h
      · replace h := ite_f q350 h
        clear q350
        refine a_iconst (v := 0) (pc := 1144) F dL_law_1144 (by decide) ?_
        cases h
    replace h := ite_f q337 h
    by_cases q356 : x4 = 17
    · replace h := ite_t q356 h
      refine a_swin (pc := 39) (tgt := 1166) F dL_law_39 (by rw [q356]; decide) (by rw [q356]; decide) (by rw [q356]; rfl) (by decide) ?_
      clear q356
      refine a_aload_n (pc := 1166) F dL_law_1166 1 rfl ?_
      refine a_aload_n (pc := 1167) F dL_law_1167 0 rfl ?_
      refine a_iload (pc := 1168) F dL_law_1168 4 rfl ?_
      refine a_iconst (v := 1) (pc := 1170) F dL_law_1170 (by decide) ?_
      refine a_iadd (pc := 1171) F dL_law_1171 ?_
      replace h := gIn_some h
      obtain ⟨g357, h⟩ := h
      refine l_sld (pc := 1172) F S dL_law_1172 g357 ?_
      refine a_nmi fun x358 ex358 => ?_
      replace h := nm_at ex358 h
      clear ex358
      refine a_aload_n (pc := 1173) F dL_law_1173 3 rfl ?_
      replace h := bnd2_some h
      obtain ⟨x360, m361, hc359, h⟩ := h
      refine l_callW (pc := 1174) (As := [.ref (ga X.G 0), .int x358, .ref (ga X.G 170)]) (st := []) F hro dL_law_1174 (mw_L_setting hc359) cwl_150 rfl rfl rfl (Nat.le_of_ble_eq_true rfl) ⟨Nat.le_of_ble_eq_true rfl, Nat.le_of_ble_eq_true rfl⟩ ?_
      clear hc359
      refine a_istore (lv' := [(5, .int x360), (0, .ref b), (1, .ref (ga X.G 0)), (2, .ref (ga X.G 162)), (3, .ref (ga X.G 170)), (4, .int i0)]) (pc := 1177) F dL_law_1177 (by decide) rfl ?_
      refine a_aload_n (pc := 1179) F dL_law_1179 3 rfl ?_
      refine a_aload_n (pc := 1180) F dL_law_1180 1 rfl ?_
      refine a_iload (pc := 1181) F dL_law_1181 5 rfl ?_
      refine a_iconst (v := 1) (pc := 1183) F dL_law_1183 (by decide) ?_
      refine a_iadd (pc := 1184) F dL_law_1184 ?_
      replace h := gIn_some h
      obtain ⟨g362, h⟩ := h
      refine l_sld (pc := 1185) F S dL_law_1185 g362 ?_
      refine a_nmi fun x363 ex363 => ?_
      replace h := nm_at ex363 h
      clear ex363
      replace h := bnd2_some h
      obtain ⟨x365, m366, hc364, h⟩ := h
      refine l_callV (pc := 1186) (k := 162) (As := [.int x363]) (st := []) F (by first | exact hro | exact hro.less) dL_law_1186 (m_X8_setting hc364) cv_RL_152 kl_162 ks_162 ⟨_, _, rfl⟩ rfl rfl rfl (Nat.le_of_ble_eq_true rfl) ⟨Nat.le_of_ble_eq_true rfl, Nat.le_of_ble_eq_true rfl⟩ ?_
      clear hc364
      refine a_istore (lv' := [(6, .int x365), (5, .int x360), (0, .ref b), (1, .ref (ga X.G 0)), (2, .ref (ga X.G 162)), (3, .ref (ga X.G 170)), (4, .int i0)]) (pc := 1189) F dL_law_1189 (by decide) rfl ?_
      refine a_aload_n (pc := 1191) F dL_law_1191 4 rfl ?_
      replace h := bnd_some h
      obtain ⟨x368, hc367, h⟩ := h
      refine l_callV (pc := 1192) (k := 162) (As := []) (st := []) F (by first | exact hro | exact hro.less) dL_law_1192 (m_X8_thrown hc367) cv_RL_93 kl_162 ks_162 ⟨_, _, rfl⟩ rfl rfl rfl (Nat.le_of_ble_eq_true rfl) ⟨Nat.le_of_ble_eq_true rfl, Nat.le_of_ble_eq_true rfl⟩ ?_
      clear hc367
      refine a_iload (pc := 1195) F dL_law_1195 1 rfl ?_
      refine a_icmp_eq (tgt := 1202) (pc := 1197) F dL_law_1197 (by decide) (fun q369 => ?_) (fun q369 => ?_)
      · replace h := ite_t q369 h
        clear q369
        refine a_iload (pc := 1202) F dL_law_1202 1 rfl ?_
        refine a_if_ne (tgt := 1219) (pc := 1204) F dL_law_1204 (by decide) (fun q370 => ?_) (fun q370 => ?_)
        · replace h := ite_f q370 h
          clear q370
          refine a_goto (tgt := 1642) (pc := 1219) F dL_law_1219 (by decide) ?_
          obtain ⟨x371, ex371⟩ : ∃ x371 : Int32, x371 = i0 + 5 := ⟨_, rfl⟩
          refine a_iinc (v := x371) (lv' := [(4, .int x371), (6, .int x365), (5, .int x360), (0, .ref b), (1, .ref (ga X.G 0)), (2, .ref (ga X.G 162)), (3, .ref (ga X.G 170))]) (pc := 1642) F dL_law_1642 6 rfl (by rw [ex371]; rfl) (by decide) rfl ?_
          replace h := nm_at ex371 h
          clear ex371
          refine a_goto (tgt := 23) (pc := 1645) F dL_law_1645 (by decide) ?_
          refine a_lv F [3, 4, 5, 6, 0] rfl ?_
          exact hP _ _ _ _ (Option.some.inj h).symm (by omega) (by omega)
        · replace h := ite_t (Decidable.not_not.mp q370) h
          clear q370
          refine a_aload_n (pc := 1207) F dL_law_1207 5 rfl ?_
          refine a_iconst (v := 0) (pc := 1208) F dL_law_1208 (by decide) ?_
          refine a_lalc (k := 170) (pc := 1209) F dL_law_1209 kl_170 ks_170 rfl rfl ?_
          refine a_iload (pc := 1210) F dL_law_1210 0 rfl ?_
          refine a_i2l (pc := 1212) F dL_law_1212 ?_
          refine a_lcmp (pc := 1213) F dL_law_1213 ?_
          refine a_nmi fun x372 ex372 => ?_
          replace h := nm_at ex372 h
          clear ex372
          refine a_if_eq (tgt := 1219) (pc := 1214) F dL_law_1214 (by decide) (fun q373 => ?_) (fun q373 => ?_)
          · replace h := ite_t q373 h
            clear q373
            refine a_goto (tgt := 1642) (pc := 1219) F dL_law_1219 (by decide) ?_
            obtain ⟨x374, ex374⟩ : ∃ x374 : Int32, x374 = i0 + 5 := ⟨_, rfl⟩
            refine a_iinc (v := x374) (lv' := [(4, .int x374), (6, .int x365), (5, .int x360), (0, .ref b), (1, .ref (ga X.G 0)), (2, .ref (ga X.G 162)), (3, .ref (ga X.G 170))]) (pc := 1642) F dL_law_1642 6 rfl (by rw [ex374]; rfl) (by decide) rfl ?_
            replace h := nm_at ex374 h
            clear ex374
            refine a_goto (tgt := 23) (pc := 1645) F dL_law_1645 (by decide) ?_
            refine a_lv F [3, 4, 5, 6, 0] rfl ?_
            exact hP _ _ _ _ (Option.some.inj h).symm (by omega) (by omega)
          · replace h := ite_f q373 h
            clear q373
            refine a_iconst (v := 0) (pc := 1217) F dL_law_1217 (by decide) ?_
            cases h
      · replace h := ite_f q369 h
        clear q369
        refine a_iconst (v := 0) (pc := 1200) F dL_law_1200 (by decide) ?_
        cases h
    replace h := ite_f q356 h
    by_cases q375 : x4 = 18
    · replace h := ite_t q375 h
      refine a_swin (pc := 39) (tgt := 1222) F dL_law_39 (by rw [q375]; decide) (by rw [q375]; decide) (by rw [q375]; rfl) (by decide) ?_
      clear q375
      refine a_aload_n (pc := 1222) F dL_law_1222 1 rfl ?_
      refine a_aload_n (pc := 1223) F dL_law_1223 0 rfl ?_
      refine a_iload (pc := 1224) F dL_law_1224 4 rfl ?_
      refine a_iconst (v := 1) (pc := 1226) F dL_law_1226 (by decide) ?_
      refine a_iadd (pc := 1227) F dL_law_1227 ?_
      replace h := gIn_some h
      obtain ⟨g376, h⟩ := h
      refine l_sld (pc := 1228) F S dL_law_1228 g376 ?_
      refine a_nmi fun x377 ex377 => ?_
      replace h := nm_at ex377 h
      clear ex377
      refine a_aload_n (pc := 1229) F dL_law_1229 0 rfl ?_
      refine a_iload (pc := 1230) F dL_law_1230 4 rfl ?_
      refine a_iconst (v := 2) (pc := 1232) F dL_law_1232 (by decide) ?_
      refine a_iadd (pc := 1233) F dL_law_1233 ?_
      replace h := gIn_some h
      obtain ⟨g378, h⟩ := h
      refine l_sld (pc := 1234) F S dL_law_1234 g378 ?_
      refine a_nmi fun x379 ex379 => ?_
      replace h := nm_at ex379 h
      clear ex379
      refine a_aload_n (pc := 1235) F dL_law_1235 0 rfl ?_
      refine a_iload (pc := 1236) F dL_law_1236 4 rfl ?_
      refine a_iconst (v := 3) (pc := 1238) F dL_law_1238 (by decide) ?_
      refine a_iadd (pc := 1239) F dL_law_1239 ?_
      replace h := gIn_some h
      obtain ⟨g380, h⟩ := h
      refine l_sld (pc := 1240) F S dL_law_1240 g380 ?_
      refine a_nmi fun x381 ex381 => ?_
      replace h := nm_at ex381 h
      clear ex381
      refine a_aload_n (pc := 1241) F dL_law_1241 0 rfl ?_
      refine a_iload (pc := 1242) F dL_law_1242 4 rfl ?_
      refine a_iconst (v := 4) (pc := 1244) F dL_law_1244 (by decide) ?_
      refine a_iadd (pc := 1245) F dL_law_1245 ?_
      replace h := gIn_some h
      obtain ⟨g382, h⟩ := h
      refine l_sld (pc := 1246) F S dL_law_1246 g382 ?_
      refine a_nmi fun x383 ex383 => ?_
      replace h := nm_at ex383 h
      clear ex383
      refine a_aload_n (pc := 1247) F dL_law_1247 3 rfl ?_
      replace h := bnd2_some h
      obtain ⟨x385, m386, hc384, h⟩ := h
      refine l_callW (pc := 1248) (As := [.ref (ga X.G 0), .int x377, .int x379, .int x381, .int x383, .ref (ga X.G 170)]) (st := []) F hro dL_law_1248 (mw_L_whyNot hc384) cwl_153 rfl rfl rfl (Nat.le_of_ble_eq_true rfl) ⟨Nat.le_of_ble_eq_true rfl, Nat.le_of_ble_eq_true rfl⟩ ?_
      clear hc384
      refine a_istore (lv' := [(5, .int x385), (0, .ref b), (1, .ref (ga X.G 0)), (2, .ref (ga X.G 162)), (3, .ref (ga X.G 170)), (4, .int i0)]) (pc := 1251) F dL_law_1251 (by decide) rfl ?_
      refine a_aload_n (pc := 1253) F dL_law_1253 3 rfl ?_
      refine a_aload_n (pc := 1254) F dL_law_1254 1 rfl ?_
      refine a_iload (pc := 1255) F dL_law_1255 5 rfl ?_
      refine a_iconst (v := 1) (pc := 1257) F dL_law_1257 (by decide) ?_
      refine a_iadd (pc := 1258) F dL_law_1258 ?_
      replace h := gIn_some h
      obtain ⟨g387, h⟩ := h
      refine l_sld (pc := 1259) F S dL_law_1259 g387 ?_
      refine a_nmi fun x388 ex388 => ?_
      replace h := nm_at ex388 h
      clear ex388
      refine a_aload_n (pc := 1260) F dL_law_1260 1 rfl ?_
      refine a_iload (pc := 1261) F dL_law_1261 5 rfl ?_
      refine a_iconst (v := 2) (pc := 1263) F dL_law_1263 (by decide) ?_
      refine a_iadd (pc := 1264) F dL_law_1264 ?_
      replace h := gIn_some h
      obtain ⟨g389, h⟩ := h
      refine l_sld (pc := 1265) F S dL_law_1265 g389 ?_
      refine a_nmi fun x390 ex390 => ?_
      replace h := nm_at ex390 h
      clear ex390
      refine a_aload_n (pc := 1266) F dL_law_1266 1 rfl ?_
      refine a_iload (pc := 1267) F dL_law_1267 5 rfl ?_
      refine a_iconst (v := 3) (pc := 1269) F dL_law_1269 (by decide) ?_
      refine a_iadd (pc := 1270) F dL_law_1270 ?_
      replace h := gIn_some h
      obtain ⟨g391, h⟩ := h
      refine l_sld (pc := 1271) F S dL_law_1271 g391 ?_
      refine a_nmi fun x392 ex392 => ?_
      replace h := nm_at ex392 h
      clear ex392
      refine a_aload_n (pc := 1272) F dL_law_1272 1 rfl ?_
      refine a_iload (pc := 1273) F dL_law_1273 5 rfl ?_
      refine a_iconst (v := 4) (pc := 1275) F dL_law_1275 (by decide) ?_
      refine a_iadd (pc := 1276) F dL_law_1276 ?_
      replace h := gIn_some h
      obtain ⟨g393, h⟩ := h
      refine l_sld (pc := 1277) F S dL_law_1277 g393 ?_
      refine a_nmi fun x394 ex394 => ?_
      replace h := nm_at ex394 h
      clear ex394
      replace h := bnd2_some h
      obtain ⟨x396, m397, hc395, h⟩ := h
      refine l_callV (pc := 1278) (k := 162) (As := [.int x388, .int x390, .int x392, .int x394]) (st := []) F (by first | exact hro | exact hro.less) dL_law_1278 (m_X8_whyNot hc395) cv_RL_155 kl_162 ks_162 ⟨_, _, rfl⟩ rfl rfl rfl (Nat.le_of_ble_eq_true rfl) ⟨Nat.le_of_ble_eq_true rfl, Nat.le_of_ble_eq_true rfl⟩ ?_
      clear hc395
      refine a_istore (lv' := [(6, .int x396), (5, .int x385), (0, .ref b), (1, .ref (ga X.G 0)), (2, .ref (ga X.G 162)), (3, .ref (ga X.G 170)), (4, .int i0)]) (pc := 1281) F dL_law_1281 (by decide) rfl ?_
      refine a_aload_n (pc := 1283) F dL_law_1283 4 rfl ?_
      replace h := bnd_some h
      obtain ⟨x399, hc398, h⟩ := h
      refine l_callV (pc := 1284) (k := 162) (As := []) (st := []) F (by first | exact hro | exact hro.less) dL_law_1284 (m_X8_thrown hc398) cv_RL_93 kl_162 ks_162 ⟨_, _, rfl⟩ rfl rfl rfl (Nat.le_of_ble_eq_true rfl) ⟨Nat.le_of_ble_eq_true rfl, Nat.le_of_ble_eq_true rfl⟩ ?_
      clear hc398
      refine a_iload (pc := 1287) F dL_law_1287 1 rfl ?_
      refine a_icmp_eq (tgt := 1294) (pc := 1289) F dL_law_1289 (by decide) (fun q400 => ?_) (fun q400 => ?_)
      · replace h := ite_t q400 h
        clear q400
        refine a_iload (pc := 1294) F dL_law_1294 1 rfl ?_
        refine a_if_ne (tgt := 1311) (pc := 1296) F dL_law_1296 (by decide) (fun q401 => ?_) (fun q401 => ?_)
        · replace h := ite_f q401 h
          clear q401
          refine a_goto (tgt := 1642) (pc := 1311) F dL_law_1311 (by decide) ?_
          obtain ⟨x402, ex402⟩ : ∃ x402 : Int32, x402 = i0 + 5 := ⟨_, rfl⟩
          refine a_iinc (v := x402) (lv' := [(4, .int x402), (6, .int x396), (5, .int x385), (0, .ref b), (1, .ref (ga X.G 0)), (2, .ref (ga X.G 162)), (3, .ref (ga X.G 170))]) (pc := 1642) F dL_law_1642 6 rfl (by rw [ex402]; rfl) (by decide) rfl ?_
          replace h := nm_at ex402 h
          clear ex402
          refine a_goto (tgt := 23) (pc := 1645) F dL_law_1645 (by decide) ?_
          refine a_lv F [3, 4, 5, 6, 0] rfl ?_
          exact hP _ _ _ _ (Option.some.inj h).symm (by omega) (by omega)
        · replace h := ite_t (Decidable.not_not.mp q401) h
          clear q401
          refine a_aload_n (pc := 1299) F dL_law_1299 5 rfl ?_
          refine a_iconst (v := 0) (pc := 1300) F dL_law_1300 (by decide) ?_
          refine a_lalc (k := 170) (pc := 1301) F dL_law_1301 kl_170 ks_170 rfl rfl ?_
          refine a_iload (pc := 1302) F dL_law_1302 0 rfl ?_
          refine a_i2l (pc := 1304) F dL_law_1304 ?_
          refine a_lcmp (pc := 1305) F dL_law_1305 ?_
          refine a_nmi fun x403 ex403 => ?_
          replace h := nm_at ex403 h
          clear ex403
          refine a_if_eq (tgt := 1311) (pc := 1306) F dL_law_1306 (by decide) (fun q404 => ?_) (fun q404 => ?_)
          · replace h := ite_t q404 h
            clear q404
            refine a_goto (tgt := 1642) (pc := 1311) F dL_law_1311 (by decide) ?_
            obtain ⟨x405, ex405⟩ : ∃ x405 : Int32, x405 = i0 + 5 := ⟨_, rfl⟩
            refine a_iinc (v := x405) (lv' := [(4, .int x405), (6, .int x396), (5, .int x385), (0, .ref b), (1, .ref (ga X.G 0)), (2, .ref (ga X.G 162)), (3, .ref (ga X.G 170))]) (pc := 1642) F dL_law_1642 6 rfl (by rw [ex405]; rfl) (by decide) rfl ?_
            replace h := nm_at ex405 h
            clear ex405
            refine a_goto (tgt := 23) (pc := 1645) F dL_law_1645 (by decide) ?_
            refine a_lv F [3, 4, 5, 6, 0] rfl ?_
            exact hP _ _ _ _ (Option.some.inj h).symm (by omega) (by omega)
          · replace h := ite_f q404 h
            clear q404
            refine a_iconst (v := 0) (pc := 1309) F dL_law_1309 (by decide) ?_
            cases h
      · replace h := ite_f q400 h
        clear q400
        refine a_iconst (v := 0) (pc := 1292) F dL_law_1292 (by decide) ?_
        cases h
    replace h := ite_f q375 h
    by_cases q406 : x4 = 19
    · replace h := ite_t q406 h
      refine a_swin (pc := 39) (tgt := 1314) F dL_law_39 (by rw [q406]; decide) (by rw [q406]; decide) (by rw [q406]; rfl) (by decide) ?_
      clear q406
      refine a_aload_n (pc := 1314) F dL_law_1314 1 rfl ?_
      refine a_aload_n (pc := 1315) F dL_law_1315 0 rfl ?_
      refine a_iload (pc := 1316) F dL_law_1316 4 rfl ?_
      refine a_iconst (v := 1) (pc := 1318) F dL_law_1318 (by decide) ?_
      refine a_iadd (pc := 1319) F dL_law_1319 ?_
      replace h := gIn_some h
      obtain ⟨g407, h⟩ := h
      refine l_sld (pc := 1320) F S dL_law_1320 g407 ?_
      refine a_nmi fun x408 ex408 => ?_
      replace h := nm_at ex408 h
      clear ex408
      refine a_aload_n (pc := 1321) F dL_law_1321 0 rfl ?_
      refine a_iload (pc := 1322) F dL_law_1322 4 rfl ?_
      refine a_iconst (v := 2) (pc := 1324) F dL_law_1324 (by decide) ?_
      refine a_iadd (pc := 1325) F dL_law_1325 ?_
      replace h := gIn_some h
      obtain ⟨g409, h⟩ := h
      refine l_sld (pc := 1326) F S dL_law_1326 g409 ?_
      refine a_nmi fun x410 ex410 => ?_
      replace h := nm_at ex410 h
      clear ex410
      refine a_aload_n (pc := 1327) F dL_law_1327 3 rfl ?_
      replace h := bnd2_some h
      obtain ⟨x412, m413, hc411, h⟩ := h
      refine l_callW (pc := 1328) (As := [.ref (ga X.G 0), .int x408, .int x410, .ref (ga X.G 170)]) (st := []) F hro dL_law_1328 (mw_L_cheapest hc411) cwl_156 rfl rfl rfl (Nat.le_of_ble_eq_true rfl) ⟨Nat.le_of_ble_eq_true rfl, Nat.le_of_ble_eq_true rfl⟩ ?_
      clear hc411
      refine a_istore (lv' := [(5, .int x412), (0, .ref b), (1, .ref (ga X.G 0)), (2, .ref (ga X.G 162)), (3, .ref (ga X.G 170)), (4, .int i0)]) (pc := 1331) F dL_law_1331 (by decide) rfl ?_
      refine a_aload_n (pc := 1333) F dL_law_1333 3 rfl ?_
      refine a_aload_n (pc := 1334) F dL_law_1334 1 rfl ?_
      refine a_iload (pc := 1335) F dL_law_1335 5 rfl ?_
      refine a_iconst (v := 1) (pc := 1337) F dL_law_1337 (by decide) ?_
      refine a_iadd (pc := 1338) F dL_law_1338 ?_
      replace h := gIn_some h
      obtain ⟨g414, h⟩ := h
      refine l_sld (pc := 1339) F S dL_law_1339 g414 ?_
      refine a_nmi fun x415 ex415 => ?_
      replace h := nm_at ex415 h
      clear ex415
      refine a_aload_n (pc := 1340) F dL_law_1340 1 rfl ?_
      refine a_iload (pc := 1341) F dL_law_1341 5 rfl ?_
      refine a_iconst (v := 2) (pc := 1343) F dL_law_1343 (by decide) ?_
      refine a_iadd (pc := 1344) F dL_law_1344 ?_
      replace h := gIn_some h
      obtain ⟨g416, h⟩ := h
      refine l_sld (pc := 1345) F S dL_law_1345 g416 ?_
      refine a_nmi fun x417 ex417 => ?_
      replace h := nm_at ex417 h
      clear ex417
      replace h := bnd2_some h
      obtain ⟨x419, m420, hc418, h⟩ := h
      refine l_callV (pc := 1346) (k := 162) (As := [.int x415, .int x417]) (st := []) F (by first | exact hro | exact hro.less) dL_law_1346 (m_X8_cheapest hc418) cv_RL_158 kl_162 ks_162 ⟨_, _, rfl⟩ rfl rfl rfl (Nat.le_of_ble_eq_true rfl) ⟨Nat.le_of_ble_eq_true rfl, Nat.le_of_ble_eq_true rfl⟩ ?_
      clear hc418
      refine a_istore (lv' := [(6, .int x419), (5, .int x412), (0, .ref b), (1, .ref (ga X.G 0)), (2, .ref (ga X.G 162)), (3, .ref (ga X.G 170)), (4, .int i0)]) (pc := 1349) F dL_law_1349 (by decide) rfl ?_
      refine a_aload_n (pc := 1351) F dL_law_1351 4 rfl ?_
      replace h := bnd_some h
      obtain ⟨x422, hc421, h⟩ := h
      refine l_callV (pc := 1352) (k := 162) (As := []) (st := []) F (by first | exact hro | exact hro.less) dL_law_1352 (m_X8_thrown hc421) cv_RL_93 kl_162 ks_162 ⟨_, _, rfl⟩ rfl rfl rfl (Nat.le_of_ble_eq_true rfl) ⟨Nat.le_of_ble_eq_true rfl, Nat.le_of_ble_eq_true rfl⟩ ?_
      clear hc421
      refine a_iload (pc := 1355) F dL_law_1355 1 rfl ?_
      refine a_icmp_eq (tgt := 1362) (pc := 1357) F dL_law_1357 (by decide) (fun q423 => ?_) (fun q423 => ?_)
      · replace h := ite_t q423 h
        clear q423
        refine a_iload (pc := 1362) F dL_law_1362 1 rfl ?_
        refine a_if_ne (tgt := 1379) (pc := 1364) F dL_law_1364 (by decide) (fun q424 => ?_) (fun q424 => ?_)
        · replace h := ite_f q424 h
          clear q424
          refine a_goto (tgt := 1642) (pc := 1379) F dL_law_1379 (by decide) ?_
          obtain ⟨x425, ex425⟩ : ∃ x425 : Int32, x425 = i0 + 5 := ⟨_, rfl⟩
          refine a_iinc (v := x425) (lv' := [(4, .int x425), (6, .int x419), (5, .int x412), (0, .ref b), (1, .ref (ga X.G 0)), (2, .ref (ga X.G 162)), (3, .ref (ga X.G 170))]) (pc := 1642) F dL_law_1642 6 rfl (by rw [ex425]; rfl) (by decide) rfl ?_
          replace h := nm_at ex425 h
          clear ex425
          refine a_goto (tgt := 23) (pc := 1645) F dL_law_1645 (by decide) ?_
          refine a_lv F [3, 4, 5, 6, 0] rfl ?_
          exact hP _ _ _ _ (Option.some.inj h).symm (by omega) (by omega)
        · replace h := ite_t (Decidable.not_not.mp q424) h
          clear q424
          refine a_aload_n (pc := 1367) F dL_law_1367 5 rfl ?_
          refine a_iconst (v := 0) (pc := 1368) F dL_law_1368 (by decide) ?_
          refine a_lalc (k := 170) (pc := 1369) F dL_law_1369 kl_170 ks_170 rfl rfl ?_
          refine a_iload (pc := 1370) F dL_law_1370 0 rfl ?_
          refine a_i2l (pc := 1372) F dL_law_1372 ?_
          refine a_lcmp (pc := 1373) F dL_law_1373 ?_
          refine a_nmi fun x426 ex426 => ?_
          replace h := nm_at ex426 h
          clear ex426
          refine a_if_eq (tgt := 1379) (pc := 1374) F dL_law_1374 (by decide) (fun q427 => ?_) (fun q427 => ?_)
          · replace h := ite_t q427 h
            clear q427
            refine a_goto (tgt := 1642) (pc := 1379) F dL_law_1379 (by decide) ?_
            obtain ⟨x428, ex428⟩ : ∃ x428 : Int32, x428 = i0 + 5 := ⟨_, rfl⟩
            refine a_iinc (v := x428) (lv' := [(4, .int x428), (6, .int x419), (5, .int x412), (0, .ref b), (1, .ref (ga X.G 0)), (2, .ref (ga X.G 162)), (3, .ref (ga X.G 170))]) (pc := 1642) F dL_law_1642 6 rfl (by rw [ex428]; rfl) (by decide) rfl ?_
            replace h := nm_at ex428 h
            clear ex428
            refine a_goto (tgt := 23) (pc := 1645) F dL_law_1645 (by decide) ?_
            refine a_lv F [3, 4, 5, 6, 0] rfl ?_
            exact hP _ _ _ _ (Option.some.inj h).symm (by omega) (by omega)
          · replace h := ite_f q427 h
            clear q427
            refine a_iconst (v := 0) (pc := 1377) F dL_law_1377 (by decide) ?_
            cases h
      · replace h := ite_f q423 h
        clear q423
        refine a_iconst (v := 0) (pc := 1360) F dL_law_1360 (by decide) ?_
        cases h
    replace h := ite_f q406 h
    by_cases q429 : x4 = 20
    · replace h := ite_t q429 h
      refine a_swin (pc := 39) (tgt := 1382) F dL_law_39 (by rw [q429]; decide) (by rw [q429]; decide) (by rw [q429]; rfl) (by decide) ?_
      clear q429
      refine a_aload_n (pc := 1382) F dL_law_1382 1 rfl ?_
      refine a_aload_n (pc := 1383) F dL_law_1383 0 rfl ?_
      refine a_iload (pc := 1384) F dL_law_1384 4 rfl ?_
      refine a_iconst (v := 1) (pc := 1386) F dL_law_1386 (by decide) ?_
      refine a_iadd (pc := 1387) F dL_law_1387 ?_
      replace h := gIn_some h
      obtain ⟨g430, h⟩ := h
      refine l_sld (pc := 1388) F S dL_law_1388 g430 ?_
      refine a_nmi fun x431 ex431 => ?_
      replace h := nm_at ex431 h
      clear ex431
      refine a_aload_n (pc := 1389) F dL_law_1389 0 rfl ?_
      refine a_iload (pc := 1390) F dL_law_1390 4 rfl ?_
      refine a_iconst (v := 2) (pc := 1392) F dL_law_1392 (by decide) ?_
      refine a_iadd (pc := 1393) F dL_law_1393 ?_
      replace h := gIn_some h
      obtain ⟨g432, h⟩ := h
      refine l_sld (pc := 1394) F S dL_law_1394 g432 ?_
      refine a_nmi fun x433 ex433 => ?_
      replace h := nm_at ex433 h
      clear ex433
      refine a_aload_n (pc := 1395) F dL_law_1395 3 rfl ?_
      replace h := bnd2_some h
      obtain ⟨x435, m436, hc434, h⟩ := h
      refine l_callW (pc := 1396) (As := [.ref (ga X.G 0), .int x431, .int x433, .ref (ga X.G 170)]) (st := []) F hro dL_law_1396 (mw_L_tiredIn hc434) cwl_159 rfl rfl rfl (Nat.le_of_ble_eq_true rfl) ⟨Nat.le_of_ble_eq_true rfl, Nat.le_of_ble_eq_true rfl⟩ ?_
      clear hc434
      refine a_istore (lv' := [(5, .int x435), (0, .ref b), (1, .ref (ga X.G 0)), (2, .ref (ga X.G 162)), (3, .ref (ga X.G 170)), (4, .int i0)]) (pc := 1399) F dL_law_1399 (by decide) rfl ?_
      refine a_aload_n (pc := 1401) F dL_law_1401 3 rfl ?_
      refine a_aload_n (pc := 1402) F dL_law_1402 1 rfl ?_
      refine a_iload (pc := 1403) F dL_law_1403 5 rfl ?_
      refine a_iconst (v := 1) (pc := 1405) F dL_law_1405 (by decide) ?_
      refine a_iadd (pc := 1406) F dL_law_1406 ?_
      replace h := gIn_some h
      obtain ⟨g437, h⟩ := h
      refine l_sld (pc := 1407) F S dL_law_1407 g437 ?_
      refine a_nmi fun x438 ex438 => ?_
      replace h := nm_at ex438 h
      clear ex438
      refine a_aload_n (pc := 1408) F dL_law_1408 1 rfl ?_
      refine a_iload (pc := 1409) F dL_law_1409 5 rfl ?_
      refine a_iconst (v := 2) (pc := 1411) F dL_law_1411 (by decide) ?_
      refine a_iadd (pc := 1412) F dL_law_1412 ?_
      replace h := gIn_some h
      obtain ⟨g439, h⟩ := h
      refine l_sld (pc := 1413) F S dL_law_1413 g439 ?_
      refine a_nmi fun x440 ex440 => ?_
      replace h := nm_at ex440 h
      clear ex440
      replace h := bnd2_some h
      obtain ⟨x442, m443, hc441, h⟩ := h
      refine l_callV (pc := 1414) (k := 162) (As := [.int x438, .int x440]) (st := []) F (by first | exact hro | exact hro.less) dL_law_1414 (m_X8_tiredIn hc441) cv_RL_161 kl_162 ks_162 ⟨_, _, rfl⟩ rfl rfl rfl (Nat.le_of_ble_eq_true rfl) ⟨Nat.le_of_ble_eq_true rfl, Nat.le_of_ble_eq_true rfl⟩ ?_
      clear hc441
      refine a_istore (lv' := [(6, .int x442), (5, .int x435), (0, .ref b), (1, .ref (ga X.G 0)), (2, .ref (ga X.G 162)), (3, .ref (ga X.G 170)), (4, .int i0)]) (pc := 1417) F dL_law_1417 (by decide) rfl ?_
      refine a_aload_n (pc := 1419) F dL_law_1419 4 rfl ?_
      replace h := bnd_some h
      obtain ⟨x445, hc444, h⟩ := h
      refine l_callV (pc := 1420) (k := 162) (As := []) (st := []) F (by first | exact hro | exact hro.less) dL_law_1420 (m_X8_thrown hc444) cv_RL_93 kl_162 ks_162 ⟨_, _, rfl⟩ rfl rfl rfl (Nat.le_of_ble_eq_true rfl) ⟨Nat.le_of_ble_eq_true rfl, Nat.le_of_ble_eq_true rfl⟩ ?_
      clear hc444
      refine a_iload (pc := 1423) F dL_law_1423 1 rfl ?_
      refine a_icmp_eq (tgt := 1430) (pc := 1425) F dL_law_1425 (by decide) (fun q446 => ?_) (fun q446 => ?_)
      · replace h := ite_t q446 h
        clear q446
        refine a_iload (pc := 1430) F dL_law_1430 1 rfl ?_
        refine a_if_ne (tgt := 1447) (pc := 1432) F dL_law_1432 (by decide) (fun q447 => ?_) (fun q447 => ?_)
        · replace h := ite_f q447 h
          clear q447
          refine a_goto (tgt := 1642) (pc := 1447) F dL_law_1447 (by decide) ?_
          obtain ⟨x448, ex448⟩ : ∃ x448 : Int32, x448 = i0 + 5 := ⟨_, rfl⟩
          refine a_iinc (v := x448) (lv' := [(4, .int x448), (6, .int x442), (5, .int x435), (0, .ref b), (1, .ref (ga X.G 0)), (2, .ref (ga X.G 162)), (3, .ref (ga X.G 170))]) (pc := 1642) F dL_law_1642 6 rfl (by rw [ex448]; rfl) (by decide) rfl ?_
          replace h := nm_at ex448 h
          clear ex448
          refine a_goto (tgt := 23) (pc := 1645) F dL_law_1645 (by decide) ?_
          refine a_lv F [3, 4, 5, 6, 0] rfl ?_
          exact hP _ _ _ _ (Option.some.inj h).symm (by omega) (by omega)
        · replace h := ite_t (Decidable.not_not.mp q447) h
          clear q447
          refine a_aload_n (pc := 1435) F dL_law_1435 5 rfl ?_
          refine a_iconst (v := 0) (pc := 1436) F dL_law_1436 (by decide) ?_
          refine a_lalc (k := 170) (pc := 1437) F dL_law_1437 kl_170 ks_170 rfl rfl ?_
          refine a_iload (pc := 1438) F dL_law_1438 0 rfl ?_
          refine a_i2l (pc := 1440) F dL_law_1440 ?_
          refine a_lcmp (pc := 1441) F dL_law_1441 ?_
          refine a_nmi fun x449 ex449 => ?_
          replace h := nm_at ex449 h
          clear ex449
          refine a_if_eq (tgt := 1447) (pc := 1442) F dL_law_1442 (by decide) (fun q450 => ?_) (fun q450 => ?_)
          · replace h := ite_t q450 h
            clear q450
            refine a_goto (tgt := 1642) (pc := 1447) F dL_law_1447 (by decide) ?_
            obtain ⟨x451, ex451⟩ : ∃ x451 : Int32, x451 = i0 + 5 := ⟨_, rfl⟩
            refine a_iinc (v := x451) (lv' := [(4, .int x451), (6, .int x442), (5, .int x435), (0, .ref b), (1, .ref (ga X.G 0)), (2, .ref (ga X.G 162)), (3, .ref (ga X.G 170))]) (pc := 1642) F dL_law_1642 6 rfl (by rw [ex451]; rfl) (by decide) rfl ?_
            replace h := nm_at ex451 h
            clear ex451
            refine a_goto (tgt := 23) (pc := 1645) F dL_law_1645 (by decide) ?_
            refine a_lv F [3, 4, 5, 6, 0] rfl ?_
            exact hP _ _ _ _ (Option.some.inj h).symm (by omega) (by omega)
          · replace h := ite_f q450 h
            clear q450
            refine a_iconst (v := 0) (pc := 1445) F dL_law_1445 (by decide) ?_
            cases h
      · replace h := ite_f q446 h
        clear q446
        refine a_iconst (v := 0) (pc := 1428) F dL_law_1428 (by decide) ?_
        cases h
    replace h := ite_f q429 h
    by_cases q452 : x4 = 21
    · replace h := ite_t q452 h
      refine a_swin (pc := 39) (tgt := 1450) F dL_law_39 (by rw [q452]; decide) (by rw [q452]; decide) (by rw [q452]; rfl) (by decide) ?_
      clear q452
      refine a_aload_n (pc := 1450) F dL_law_1450 1 rfl ?_
      refine a_aload_n (pc := 1451) F dL_law_1451 0 rfl ?_
      refine a_iload (pc := 1452) F dL_law_1452 4 rfl ?_
      refine a_iconst (v := 1) (pc := 1454) F dL_law_1454 (by decide) ?_
      refine a_iadd (pc := 1455) F dL_law_1455 ?_
      replace h := gIn_some h
      obtain ⟨g453, h⟩ := h
      refine l_sld (pc := 1456) F S dL_law_1456 g453 ?_
      refine a_nmi fun x454 ex454 => ?_
      replace h := nm_at ex454 h
      clear ex454
      refine a_aload_n (pc := 1457) F dL_law_1457 0 rfl ?_
      refine a_iload (pc := 1458) F dL_law_1458 4 rfl ?_
      refine a_iconst (v := 2) (pc := 1460) F dL_law_1460 (by decide) ?_
      refine a_iadd (pc := 1461) F dL_law_1461 ?_
      replace h := gIn_some h
      obtain ⟨g455, h⟩ := h
      refine l_sld (pc := 1462) F S dL_law_1462 g455 ?_
      refine a_nmi fun x456 ex456 => ?_
      replace h := nm_at ex456 h
      clear ex456
      refine a_aload_n (pc := 1463) F dL_law_1463 3 rfl ?_
      replace h := bnd2_some h
      obtain ⟨x458, m459, hc457, h⟩ := h
      refine l_callW (pc := 1464) (As := [.ref (ga X.G 0), .int x454, .int x456, .ref (ga X.G 170)]) (st := []) F hro dL_law_1464 (mw_L_ifVacated hc457) cwl_162 rfl rfl rfl (Nat.le_of_ble_eq_true rfl) ⟨Nat.le_of_ble_eq_true rfl, Nat.le_of_ble_eq_true rfl⟩ ?_
      clear hc457
      refine a_istore (lv' := [(5, .int x458), (0, .ref b), (1, .ref (ga X.G 0)), (2, .ref (ga X.G 162)), (3, .ref (ga X.G 170)), (4, .int i0)]) (pc := 1467) F dL_law_1467 (by decide) rfl ?_
      refine a_aload_n (pc := 1469) F dL_law_1469 3 rfl ?_
      refine a_aload_n (pc := 1470) F dL_law_1470 1 rfl ?_
      refine a_iload (pc := 1471) F dL_law_1471 5 rfl ?_
      refine a_iconst (v := 1) (pc := 1473) F dL_law_1473 (by decide) ?_
      refine a_iadd (pc := 1474) F dL_law_1474 ?_
      replace h := gIn_some h
      obtain ⟨g460, h⟩ := h
      refine l_sld (pc := 1475) F S dL_law_1475 g460 ?_
      refine a_nmi fun x461 ex461 => ?_
      replace h := nm_at ex461 h
      clear ex461
      refine a_aload_n (pc := 1476) F dL_law_1476 1 rfl ?_
      refine a_iload (pc := 1477) F dL_law_1477 5 rfl ?_
      refine a_iconst (v := 2) (pc := 1479) F dL_law_1479 (by decide) ?_
      refine a_iadd (pc := 1480) F dL_law_1480 ?_
      replace h := gIn_some h
      obtain ⟨g462, h⟩ := h
      refine l_sld (pc := 1481) F S dL_law_1481 g462 ?_
      refine a_nmi fun x463 ex463 => ?_
      replace h := nm_at ex463 h
      clear ex463
      replace h := bnd2_some h
      obtain ⟨x465, m466, hc464, h⟩ := h
      refine l_callV (pc := 1482) (k := 162) (As := [.int x461, .int x463]) (st := []) F (by first | exact hro | exact hro.less) dL_law_1482 (m_X8_ifVacated hc464) cv_RL_164 kl_162 ks_162 ⟨_, _, rfl⟩ rfl rfl rfl (Nat.le_of_ble_eq_true rfl) ⟨Nat.le_of_ble_eq_true rfl, Nat.le_of_ble_eq_true rfl⟩ ?_
      clear hc464
      refine a_istore (lv' := [(6, .int x465), (5, .int x458), (0, .ref b), (1, .ref (ga X.G 0)), (2, .ref (ga X.G 162)), (3, .ref (ga X.G 170)), (4, .int i0)]) (pc := 1485) F dL_law_1485 (by decide) rfl ?_
      refine a_aload_n (pc := 1487) F dL_law_1487 4 rfl ?_
      replace h := bnd_some h
      obtain ⟨x468, hc467, h⟩ := h
      refine l_callV (pc := 1488) (k := 162) (As := []) (st := []) F (by first | exact hro | exact hro.less) dL_law_1488 (m_X8_thrown hc467) cv_RL_93 kl_162 ks_162 ⟨_, _, rfl⟩ rfl rfl rfl (Nat.le_of_ble_eq_true rfl) ⟨Nat.le_of_ble_eq_true rfl, Nat.le_of_ble_eq_true rfl⟩ ?_
      clear hc467
      refine a_iload (pc := 1491) F dL_law_1491 1 rfl ?_
      refine a_icmp_eq (tgt := 1498) (pc := 1493) F dL_law_1493 (by decide) (fun q469 => ?_) (fun q469 => ?_)
      · replace h := ite_t q469 h
        clear q469
        refine a_iload (pc := 1498) F dL_law_1498 1 rfl ?_
        refine a_if_ne (tgt := 1515) (pc := 1500) F dL_law_1500 (by decide) (fun q470 => ?_) (fun q470 => ?_)
        · replace h := ite_f q470 h
          clear q470
          refine a_goto (tgt := 1642) (pc := 1515) F dL_law_1515 (by decide) ?_
          obtain ⟨x471, ex471⟩ : ∃ x471 : Int32, x471 = i0 + 5 := ⟨_, rfl⟩
          refine a_iinc (v := x471) (lv' := [(4, .int x471), (6, .int x465), (5, .int x458), (0, .ref b), (1, .ref (ga X.G 0)), (2, .ref (ga X.G 162)), (3, .ref (ga X.G 170))]) (pc := 1642) F dL_law_1642 6 rfl (by rw [ex471]; rfl) (by decide) rfl ?_
          replace h := nm_at ex471 h
          clear ex471
          refine a_goto (tgt := 23) (pc := 1645) F dL_law_1645 (by decide) ?_
          refine a_lv F [3, 4, 5, 6, 0] rfl ?_
          exact hP _ _ _ _ (Option.some.inj h).symm (by omega) (by omega)
        · replace h := ite_t (Decidable.not_not.mp q470) h
          clear q470
          refine a_aload_n (pc := 1503) F dL_law_1503 5 rfl ?_
          refine a_iconst (v := 0) (pc := 1504) F dL_law_1504 (by decide) ?_
          refine a_lalc (k := 170) (pc := 1505) F dL_law_1505 kl_170 ks_170 rfl rfl ?_
          refine a_iload (pc := 1506) F dL_law_1506 0 rfl ?_
          refine a_i2l (pc := 1508) F dL_law_1508 ?_
          refine a_lcmp (pc := 1509) F dL_law_1509 ?_
          refine a_nmi fun x472 ex472 => ?_
          replace h := nm_at ex472 h
          clear ex472
          refine a_if_eq (tgt := 1515) (pc := 1510) F dL_law_1510 (by decide) (fun q473 => ?_) (fun q473 => ?_)
          · replace h := ite_t q473 h
            clear q473
            refine a_goto (tgt := 1642) (pc := 1515) F dL_law_1515 (by decide) ?_
            obtain ⟨x474, ex474⟩ : ∃ x474 : Int32, x474 = i0 + 5 := ⟨_, rfl⟩
            refine a_iinc (v := x474) (lv' := [(4, .int x474), (6, .int x465), (5, .int x458), (0, .ref b), (1, .ref (ga X.G 0)), (2, .ref (ga X.G 162)), (3, .ref (ga X.G 170))]) (pc := 1642) F dL_law_1642 6 rfl (by rw [ex474]; rfl) (by decide) rfl ?_
            replace h := nm_at ex474 h
            clear ex474
            refine a_goto (tgt := 23) (pc := 1645) F dL_law_1645 (by decide) ?_
            refine a_lv F [3, 4, 5, 6, 0] rfl ?_
            exact hP _ _ _ _ (Option.some.inj h).symm (by omega) (by omega)
          · replace h := ite_f q473 h
            clear q473
            refine a_iconst (v := 0) (pc := 1513) F dL_law_1513 (by decide) ?_
            cases h
      · replace h := ite_f q469 h
        clear q469
        refine a_iconst (v := 0) (pc := 1496) F dL_law_1496 (by decide) ?_
        cases h
    replace h := ite_f q452 h
    by_cases q475 : x4 = 22
    · replace h := ite_t q475 h
      refine a_swin (pc := 39) (tgt := 1518) F dL_law_39 (by rw [q475]; decide) (by rw [q475]; decide) (by rw [q475]; rfl) (by decide) ?_
      clear q475
      refine a_aload_n (pc := 1518) F dL_law_1518 1 rfl ?_
      replace h := bnd2_some h
      obtain ⟨x477, m478, hc476, h⟩ := h
      refine l_callV (pc := 1519) (k := 0) (As := []) (st := []) F (by first | exact hro | exact hro.less) dL_law_1519 (m_X7_mannable hc476) cv_RL_165 kl_0 ks_0 ⟨_, _, rfl⟩ rfl rfl rfl (Nat.le_of_ble_eq_true rfl) ⟨Nat.le_of_ble_eq_true rfl, Nat.le_of_ble_eq_true rfl⟩ ?_
      clear hc476
      refine a_aload_n (pc := 1522) F dL_law_1522 2 rfl ?_
      replace h := bnd2_some h
      obtain ⟨x480, m481, hc479, h⟩ := h
      refine l_callV (pc := 1523) (k := 162) (As := []) (st := [.int x477]) F (by first | exact hro | exact hro.less) dL_law_1523 (m_X8_mannable hc479) cv_RL_168 kl_162 ks_162 ⟨_, _, rfl⟩ rfl rfl rfl (Nat.le_of_ble_eq_true rfl) ⟨Nat.le_of_ble_eq_true rfl, Nat.le_of_ble_eq_true rfl⟩ ?_
      clear hc479
      refine a_icmp_eq (tgt := 1642) (pc := 1526) F dL_law_1526 (by decide) (fun q482 => ?_) (fun q482 => ?_)
      · replace h := ite_t q482 h
        clear q482
        obtain ⟨x483, ex483⟩ : ∃ x483 : Int32, x483 = i0 + 5 := ⟨_, rfl⟩
        refine a_iinc (v := x483) (lv' := [(4, .int x483), (0, .ref b), (1, .ref (ga X.G 0)), (2, .ref (ga X.G 162)), (3, .ref (ga X.G 170))]) (pc := 1642) F dL_law_1642 4 rfl (by rw [ex483]; rfl) (by decide) rfl ?_
        replace h := nm_at ex483 h
        clear ex483
        refine a_goto (tgt := 23) (pc := 1645) F dL_law_1645 (by decide) ?_
        refine a_lv F [1, 2, 3, 4, 0] rfl ?_
        exact hP _ _ _ _ (Option.some.inj h).symm (by omega) (by omega)
      · replace h := ite_f q482 h
        clear q482
        refine a_iconst (v := 0) (pc := 1529) F dL_law_1529 (by decide) ?_
        cases h
    replace h := ite_f q475 h
    by_cases q484 : x4 = 23
    · replace h := ite_t q484 h
      refine a_swin (pc := 39) (tgt := 1531) F dL_law_39 (by rw [q484]; decide) (by rw [q484]; decide) (by rw [q484]; rfl) (by decide) ?_
      clear q484
      refine a_aload_n (pc := 1531) F dL_law_1531 1 rfl ?_
      refine a_aload_n (pc := 1532) F dL_law_1532 0 rfl ?_
      refine a_iload (pc := 1533) F dL_law_1533 4 rfl ?_
      refine a_iconst (v := 1) (pc := 1535) F dL_law_1535 (by decide) ?_
      refine a_iadd (pc := 1536) F dL_law_1536 ?_
      replace h := gIn_some h
      obtain ⟨g485, h⟩ := h
      refine l_sld (pc := 1537) F S dL_law_1537 g485 ?_
      refine a_nmi fun x486 ex486 => ?_
      replace h := nm_at ex486 h
      clear ex486
      refine a_aload_n (pc := 1538) F dL_law_1538 3 rfl ?_
      replace h := bnd2_some h
      obtain ⟨x488, m489, hc487, h⟩ := h
      refine l_callW (pc := 1539) (As := [.ref (ga X.G 0), .int x486, .ref (ga X.G 170)]) (st := []) F hro dL_law_1539 (mw_L_missing hc487) cwl_169 rfl rfl rfl (Nat.le_of_ble_eq_true rfl) ⟨Nat.le_of_ble_eq_true rfl, Nat.le_of_ble_eq_true rfl⟩ ?_
      clear hc487
      refine a_istore (lv' := [(5, .int x488), (0, .ref b), (1, .ref (ga X.G 0)), (2, .ref (ga X.G 162)), (3, .ref (ga X.G 170)), (4, .int i0)]) (pc := 1542) F dL_law_1542 (by decide) rfl ?_
      refine a_aload_n (pc := 1544) F dL_law_1544 3 rfl ?_
      refine a_aload_n (pc := 1545) F dL_law_1545 1 rfl ?_
      refine a_iload (pc := 1546) F dL_law_1546 5 rfl ?_
      refine a_iconst (v := 1) (pc := 1548) F dL_law_1548 (by decide) ?_
      refine a_iadd (pc := 1549) F dL_law_1549 ?_
      replace h := gIn_some h
      obtain ⟨g490, h⟩ := h
      refine l_sld (pc := 1550) F S dL_law_1550 g490 ?_
      refine a_nmi fun x491 ex491 => ?_
      replace h := nm_at ex491 h
      clear ex491
      replace h := bnd2_some h
      obtain ⟨x493, m494, hc492, h⟩ := h
      refine l_callV (pc := 1551) (k := 162) (As := [.int x491]) (st := []) F (by first | exact hro | exact hro.less) dL_law_1551 (m_X8_missing hc492) cv_RL_171 kl_162 ks_162 ⟨_, _, rfl⟩ rfl rfl rfl (Nat.le_of_ble_eq_true rfl) ⟨Nat.le_of_ble_eq_true rfl, Nat.le_of_ble_eq_true rfl⟩ ?_
      clear hc492
      refine a_istore (lv' := [(6, .int x493), (5, .int x488), (0, .ref b), (1, .ref (ga X.G 0)), (2, .ref (ga X.G 162)), (3, .ref (ga X.G 170)), (4, .int i0)]) (pc := 1554) F dL_law_1554 (by decide) rfl ?_
      refine a_aload_n (pc := 1556) F dL_law_1556 4 rfl ?_
      replace h := bnd_some h
      obtain ⟨x496, hc495, h⟩ := h
      refine l_callV (pc := 1557) (k := 162) (As := []) (st := []) F (by first | exact hro | exact hro.less) dL_law_1557 (m_X8_thrown hc495) cv_RL_93 kl_162 ks_162 ⟨_, _, rfl⟩ rfl rfl rfl (Nat.le_of_ble_eq_true rfl) ⟨Nat.le_of_ble_eq_true rfl, Nat.le_of_ble_eq_true rfl⟩ ?_
      clear hc495
      refine a_iload (pc := 1560) F dL_law_1560 1 rfl ?_
      refine a_icmp_eq (tgt := 1567) (pc := 1562) F dL_law_1562 (by decide) (fun q497 => ?_) (fun q497 => ?_)
      · replace h := ite_t q497 h
        clear q497
        refine a_iload (pc := 1567) F dL_law_1567 1 rfl ?_
        refine a_if_ne (tgt := 1584) (pc := 1569) F dL_law_1569 (by decide) (fun q498 => ?_) (fun q498 => ?_)
        · replace h := ite_f q498 h
          clear q498
          refine a_goto (tgt := 1642) (pc := 1584) F dL_law_1584 (by decide) ?_
          obtain ⟨x499, ex499⟩ : ∃ x499 : Int32, x499 = i0 + 5 := ⟨_, rfl⟩
          refine a_iinc (v := x499) (lv' := [(4, .int x499), (6, .int x493), (5, .int x488), (0, .ref b), (1, .ref (ga X.G 0)), (2, .ref (ga X.G 162)), (3, .ref (ga X.G 170))]) (pc := 1642) F dL_law_1642 6 rfl (by rw [ex499]; rfl) (by decide) rfl ?_
          replace h := nm_at ex499 h
          clear ex499
          refine a_goto (tgt := 23) (pc := 1645) F dL_law_1645 (by decide) ?_
          refine a_lv F [3, 4, 5, 6, 0] rfl ?_
          exact hP _ _ _ _ (Option.some.inj h).symm (by omega) (by omega)
        · replace h := ite_t (Decidable.not_not.mp q498) h
          clear q498
          refine a_aload_n (pc := 1572) F dL_law_1572 5 rfl ?_
          refine a_iconst (v := 0) (pc := 1573) F dL_law_1573 (by decide) ?_
          refine a_lalc (k := 170) (pc := 1574) F dL_law_1574 kl_170 ks_170 rfl rfl ?_
          refine a_iload (pc := 1575) F dL_law_1575 0 rfl ?_
          refine a_i2l (pc := 1577) F dL_law_1577 ?_
          refine a_lcmp (pc := 1578) F dL_law_1578 ?_
          refine a_nmi fun x500 ex500 => ?_
          replace h := nm_at ex500 h
          clear ex500
          refine a_if_eq (tgt := 1584) (pc := 1579) F dL_law_1579 (by decide) (fun q501 => ?_) (fun q501 => ?_)
          · replace h := ite_t q501 h
            clear q501
            refine a_goto (tgt := 1642) (pc := 1584) F dL_law_1584 (by decide) ?_
            obtain ⟨x502, ex502⟩ : ∃ x502 : Int32, x502 = i0 + 5 := ⟨_, rfl⟩
            refine a_iinc (v := x502) (lv' := [(4, .int x502), (6, .int x493), (5, .int x488), (0, .ref b), (1, .ref (ga X.G 0)), (2, .ref (ga X.G 162)), (3, .ref (ga X.G 170))]) (pc := 1642) F dL_law_1642 6 rfl (by rw [ex502]; rfl) (by decide) rfl ?_
            replace h := nm_at ex502 h
            clear ex502
            refine a_goto (tgt := 23) (pc := 1645) F dL_law_1645 (by decide) ?_
            refine a_lv F [3, 4, 5, 6, 0] rfl ?_
            exact hP _ _ _ _ (Option.some.inj h).symm (by omega) (by omega)
          · replace h := ite_f q501 h
            clear q501
            refine a_iconst (v := 0) (pc := 1582) F dL_law_1582 (by decide) ?_
            cases h
      · replace h := ite_f q497 h
        clear q497
        refine a_iconst (v := 0) (pc := 1565) F dL_law_1565 (by decide) ?_
        cases h
    replace h := ite_f q484 h
    by_cases q503 : x4 = 24
    · replace h := ite_t q503 h
      refine a_swin (pc := 39) (tgt := 1587) F dL_law_39 (by rw [q503]; decide) (by rw [q503]; decide) (by rw [q503]; rfl) (by decide) ?_
      clear q503
      refine a_aload_n (pc := 1587) F dL_law_1587 1 rfl ?_
      replace h := bnd_some h
      obtain ⟨z505, hc504, h⟩ := h
      refine l_callV (pc := 1588) (k := 0) (As := []) (st := []) F (by first | exact hro | exact hro.less) dL_law_1588 (m_X7_doneShare hc504) cv_RL_172 kl_0 ks_0 ⟨_, _, rfl⟩ rfl rfl rfl (Nat.le_of_ble_eq_true rfl) ⟨Nat.le_of_ble_eq_true rfl, Nat.le_of_ble_eq_true rfl⟩ ?_
      clear hc504
      refine a_dstore (lv' := [(5, .double z505), (0, .ref b), (1, .ref (ga X.G 0)), (2, .ref (ga X.G 162)), (3, .ref (ga X.G 170)), (4, .int i0)]) (pc := 1591) F dL_law_1591 (by decide) rfl ?_
      refine a_aload_n (pc := 1593) F dL_law_1593 3 rfl ?_
      replace h := bnd2_some h
      obtain ⟨z507, m508, hc506, h⟩ := h
      refine l_callV (pc := 1594) (k := 162) (As := []) (st := []) F (by first | exact hro | exact hro.less) dL_law_1594 (m_X8_doneShare hc506) cv_RL_176 kl_162 ks_162 ⟨_, _, rfl⟩ rfl rfl rfl (Nat.le_of_ble_eq_true rfl) ⟨Nat.le_of_ble_eq_true rfl, Nat.le_of_ble_eq_true rfl⟩ ?_
      clear hc506
      refine a_dstore (lv' := [(7, .double z507), (5, .double z505), (0, .ref b), (1, .ref (ga X.G 0)), (2, .ref (ga X.G 162)), (3, .ref (ga X.G 170)), (4, .int i0)]) (pc := 1597) F dL_law_1597 (by decide) rfl ?_
      refine a_dload (pc := 1599) F dL_law_1599 1 rfl ?_
      refine a_dload (pc := 1601) F dL_law_1601 0 rfl ?_
      refine a_dcmp (pc := 1603) F dL_law_1603 ?_
      refine a_nmi fun x509 ex509 => ?_
      replace h := nm_at ex509 h
      clear ex509
      refine a_if_eq (tgt := 1625) (pc := 1604) F dL_law_1604 (by decide) (fun q510 => ?_) (fun q510 => ?_)
      · replace h := ite_t q510 h
        clear q510
        refine a_goto (tgt := 1642) (pc := 1625) F dL_law_1625 (by decide) ?_
        obtain ⟨x511, ex511⟩ : ∃ x511 : Int32, x511 = i0 + 5 := ⟨_, rfl⟩
        refine a_iinc (v := x511) (lv' := [(4, .int x511), (7, .double z507), (5, .double z505), (0, .ref b), (1, .ref (ga X.G 0)), (2, .ref (ga X.G 162)), (3, .ref (ga X.G 170))]) (pc := 1642) F dL_law_1642 6 rfl (by rw [ex511]; rfl) (by decide) rfl ?_
        replace h := nm_at ex511 h
        clear ex511
        refine a_goto (tgt := 23) (pc := 1645) F dL_law_1645 (by decide) ?_
        refine a_lv F [3, 4, 5, 6, 0] rfl ?_
        exact hP _ _ _ _ (Option.some.inj h).symm (by omega) (by omega)
      · replace h := ite_f q510 h
        clear q510
        refine a_dload (pc := 1607) F dL_law_1607 1 rfl ?_
        refine a_dload (pc := 1609) F dL_law_1609 1 rfl ?_
        refine a_dcmp (pc := 1611) F dL_law_1611 ?_
        refine a_nmi fun x512 ex512 => ?_
        replace h := nm_at ex512 h
        clear ex512
        refine a_if_eq (tgt := 1623) (pc := 1612) F dL_law_1612 (by decide) (fun q513 => ?_) (fun q513 => ?_)
        · replace h := ite_t q513 h
          clear q513
          refine a_iconst (v := 0) (pc := 1623) F dL_law_1623 (by decide) ?_
          cases h
        · replace h := ite_f q513 h
          clear q513
          refine a_dload (pc := 1615) F dL_law_1615 0 rfl ?_
          refine a_dload (pc := 1617) F dL_law_1617 0 rfl ?_
          refine a_dcmp (pc := 1619) F dL_law_1619 ?_
          refine a_nmi fun x514 ex514 => ?_
          replace h := nm_at ex514 h
          clear ex514
          refine a_if_ne (tgt := 1625) (pc := 1620) F dL_law_1620 (by decide) (fun q515 => ?_) (fun q515 => ?_)
          · replace h := ite_f q515 h
            clear q515
            refine a_goto (tgt := 1642) (pc := 1625) F dL_law_1625 (by decide) ?_
            obtain ⟨x516, ex516⟩ : ∃ x516 : Int32, x516 = i0 + 5 := ⟨_, rfl⟩
            refine a_iinc (v := x516) (lv' := [(4, .int x516), (7, .double z507), (5, .double z505), (0, .ref b), (1, .ref (ga X.G 0)), (2, .ref (ga X.G 162)), (3, .ref (ga X.G 170))]) (pc := 1642) F dL_law_1642 6 rfl (by rw [ex516]; rfl) (by decide) rfl ?_
            replace h := nm_at ex516 h
            clear ex516
            refine a_goto (tgt := 23) (pc := 1645) F dL_law_1645 (by decide) ?_
            refine a_lv F [3, 4, 5, 6, 0] rfl ?_
            exact hP _ _ _ _ (Option.some.inj h).symm (by omega) (by omega)
          · replace h := ite_t (Decidable.not_not.mp q515) h
            clear q515
            refine a_iconst (v := 0) (pc := 1623) F dL_law_1623 (by decide) ?_
            cases h
    replace h := ite_f q503 h
    by_cases q517 : x4 = 25
    · replace h := ite_t q517 h
      refine a_swin (pc := 39) (tgt := 1628) F dL_law_39 (by rw [q517]; decide) (by rw [q517]; decide) (by rw [q517]; rfl) (by decide) ?_
      clear q517
      refine a_aload_n (pc := 1628) F dL_law_1628 1 rfl ?_
      replace h := bnd2_some h
      obtain ⟨y519, m520, hc518, h⟩ := h
      refine l_callV (pc := 1629) (k := 0) (As := []) (st := []) F (by first | exact hro | exact hro.less) dL_law_1629 (m_X7_digest hc518) cv_RL_177 kl_0 ks_0 ⟨_, _, rfl⟩ rfl rfl rfl (Nat.le_of_ble_eq_true rfl) ⟨Nat.le_of_ble_eq_true rfl, Nat.le_of_ble_eq_true rfl⟩ ?_
      clear hc518
      refine a_aload_n (pc := 1632) F dL_law_1632 2 rfl ?_
      replace h := bnd2_some h
      obtain ⟨y522, m523, hc521, h⟩ := h
      refine l_callV (pc := 1633) (k := 162) (As := []) (st := [.long y519]) F (by first | exact hro | exact hro.less) dL_law_1633 (m_X8_digest hc521) cv_RL_181 kl_162 ks_162 ⟨_, _, rfl⟩ rfl rfl rfl (Nat.le_of_ble_eq_true rfl) ⟨Nat.le_of_ble_eq_true rfl, Nat.le_of_ble_eq_true rfl⟩ ?_
      clear hc521
      refine a_lcmp (pc := 1636) F dL_law_1636 ?_
      refine a_if_eq (tgt := 1642) (pc := 1637) F dL_law_1637 (by decide) (fun q524 => ?_) (fun q524 => ?_)
      · replace h := ite_t q524 h
        clear q524
        obtain ⟨x525, ex525⟩ : ∃ x525 : Int32, x525 = i0 + 5 := ⟨_, rfl⟩
        refine a_iinc (v := x525) (lv' := [(4, .int x525), (0, .ref b), (1, .ref (ga X.G 0)), (2, .ref (ga X.G 162)), (3, .ref (ga X.G 170))]) (pc := 1642) F dL_law_1642 4 rfl (by rw [ex525]; rfl) (by decide) rfl ?_
        replace h := nm_at ex525 h
        clear ex525
        refine a_goto (tgt := 23) (pc := 1645) F dL_law_1645 (by decide) ?_
        refine a_lv F [1, 2, 3, 4, 0] rfl ?_
        exact hP _ _ _ _ (Option.some.inj h).symm (by omega) (by omega)
      · replace h := ite_f q524 h
        clear q524
        refine a_iconst (v := 0) (pc := 1640) F dL_law_1640 (by decide) ?_
        cases h
    replace h := ite_f q517 h
    refine a_swout (pc := 39) (tgt := 1642) F dL_law_39 (by have nq5 := lv_neT (a := 0) q5 (by decide); have nq32 := lv_neT (a := 1) q32 (by decide); have nq63 := lv_neT (a := 2) q63 (by decide); have nq86 := lv_neT (a := 3) q86 (by decide); have nq109 := lv_neT (a := 4) q109 (by decide); have nq140 := lv_neT (a := 5) q140 (by decide); have nq159 := lv_neT (a := 6) q159 (by decide); have nq186 := lv_neT (a := 7) q186 (by decide); have nq205 := lv_neT (a := 8) q205 (by decide); have nq224 := lv_neT (a := 9) q224 (by decide); have nq243 := lv_neT (a := 10) q243 (by decide); have nq252 := lv_neT (a := 11) q252 (by decide); have nq261 := lv_neT (a := 12) q261 (by decide); have nq276 := lv_neT (a := 13) q276 (by decide); have nq291 := lv_neT (a := 14) q291 (by decide); have nq314 := lv_neT (a := 15) q314 (by decide); have nq337 := lv_neT (a := 16) q337 (by decide); have nq356 := lv_neT (a := 17) q356 (by decide); have nq375 := lv_neT (a := 18) q375 (by decide); have nq406 := lv_neT (a := 19) q406 (by decide); have nq429 := lv_neT (a := 20) q429 (by decide); have nq452 := lv_neT (a := 21) q452 (by decide); have nq475 := lv_neT (a := 22) q475 (by decide); have nq484 := lv_neT (a := 23) q484 (by decide); have nq503 := lv_neT (a := 24) q503 (by decide); have nq517 := lv_neT (a := 25) q517 (by decide); omega) (by decide) ?_
    clear q5
    clear q32
    clear q63
    clear q86
    clear q109
    clear q140
    clear q159
    clear q186
    clear q205
    clear q224
    clear q243
    clear q252
    clear q261
    clear q276
    clear q291
    clear q314
    clear q337
    clear q356
    clear q375
    clear q406
    clear q429
    clear q452
    clear q475
    clear q484
    clear q503
    clear q517
    obtain ⟨x526, ex526⟩ : ∃ x526 : Int32, x526 = i0 + 5 := ⟨_, rfl⟩
    refine a_iinc (v := x526) (lv' := [(4, .int x526), (0, .ref b), (1, .ref (ga X.G 0)), (2, .ref (ga X.G 162)), (3, .ref (ga X.G 170))]) (pc := 1642) F dL_law_1642 4 rfl (by rw [ex526]; rfl) (by decide) rfl ?_
    replace h := nm_at ex526 h
    clear ex526
    refine a_goto (tgt := 23) (pc := 1645) F dL_law_1645 (by decide) ?_
    refine a_lv F [1, 2, 3, 4, 0] rfl ?_
    exact hP _ _ _ _ (Option.some.inj h).symm (by omega) (by omega)
