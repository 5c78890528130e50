section GEN30
variable {l : Launch} {Γ : pmG} {d : Nat}
-- StruckPageLaw.law([I)Z
def L_law__j2232 (again23 : (Int32 × pmM) → pmR) (l0 : Nat) (l1 : Nat) (l2 : Nat) (l3 : Nat) (l4 : Int32) (m : pmM) : pmR := pm_bI (l4 + 8) fun x26 => again23 (x26, m)
def L_law__j338 (again23 : (Int32 × pmM) → pmR) (l0 : Nat) (l1 : Nat) (l2 : Nat) (l3 : Nat) (l4 : Int32) (m : pmM) : pmR := L_law__j2232 again23 l0 l1 l2 l3 l4 m
def L_law__j394 (again23 : (Int32 × pmM) → pmR) (l0 : Nat) (l1 : Nat) (l2 : Nat) (l3 : Nat) (l4 : Int32) (m : pmM) : pmR := L_law__j2232 again23 l0 l1 l2 l3 l4 m
def L_law__j450 (again23 : (Int32 × pmM) → pmR) (l0 : Nat) (l1 : Nat) (l2 : Nat) (l3 : Nat) (l4 : Int32) (m : pmM) : pmR := L_law__j2232 again23 l0 l1 l2 l3 l4 m
def L_law__j506 (again23 : (Int32 × pmM) → pmR) (l0 : Nat) (l1 : Nat) (l2 : Nat) (l3 : Nat) (l4 : Int32) (m : pmM) : pmR := L_law__j2232 again23 l0 l1 l2 l3 l4 m
def L_law__j588 (again23 : (Int32 × pmM) → pmR) (l0 : Nat) (l1 : Nat) (l2 : Nat) (l3 : Nat) (l4 : Int32) (m : pmM) : pmR := L_law__j2232 again23 l0 l1 l2 l3 l4 m
def L_law__j656 (again23 : (Int32 × pmM) → pmR) (l0 : Nat) (l1 : Nat) (l2 : Nat) (l3 : Nat) (l4 : Int32) (m : pmM) : pmR := L_law__j2232 again23 l0 l1 l2 l3 l4 m
def L_law__j736 (again23 : (Int32 × pmM) → pmR) (l0 : Nat) (l1 : Nat) (l2 : Nat) (l3 : Nat) (l4 : Int32) (m : pmM) : pmR := L_law__j2232 again23 l0 l1 l2 l3 l4 m
def L_law__j792 (again23 : (Int32 × pmM) → pmR) (l0 : Nat) (l1 : Nat) (l2 : Nat) (l3 : Nat) (l4 : Int32) (m : pmM) : pmR := L_law__j2232 again23 l0 l1 l2 l3 l4 m
def L_law__j848 (again23 : (Int32 × pmM) → pmR) (l0 : Nat) (l1 : Nat) (l2 : Nat) (l3 : Nat) (l4 : Int32) (m : pmM) : pmR := L_law__j2232 again23 l0 l1 l2 l3 l4 m
def L_law__j928 (again23 : (Int32 × pmM) → pmR) (l0 : Nat) (l1 : Nat) (l2 : Nat) (l3 : Nat) (l4 : Int32) (m : pmM) : pmR := L_law__j2232 again23 l0 l1 l2 l3 l4 m
def L_law__j1060 (again23 : (Int32 × pmM) → pmR) (l0 : Nat) (l1 : Nat) (l2 : Nat) (l3 : Nat) (l4 : Int32) (m : pmM) : pmR := L_law__j2232 again23 l0 l1 l2 l3 l4 m
def L_law__j1128 (again23 : (Int32 × pmM) → pmR) (l0 : Nat) (l1 : Nat) (l2 : Nat) (l3 : Nat) (l4 : Int32) (m : pmM) : pmR := L_law__j2232 again23 l0 l1 l2 l3 l4 m
def L_law__j1250 (again23 : (Int32 × pmM) → pmR) (l0 : Nat) (l1 : Nat) (l2 : Nat) (l3 : Nat) (l4 : Int32) (m : pmM) : pmR := L_law__j2232 again23 l0 l1 l2 l3 l4 m
def L_law__j1306 (again23 : (Int32 × pmM) → pmR) (l0 : Nat) (l1 : Nat) (l2 : Nat) (l3 : Nat) (l4 : Int32) (m : pmM) : pmR := L_law__j2232 again23 l0 l1 l2 l3 l4 m
def L_law__j1362 (again23 : (Int32 × pmM) → pmR) (l0 : Nat) (l1 : Nat) (l2 : Nat) (l3 : Nat) (l4 : Int32) (m : pmM) : pmR := L_law__j2232 again23 l0 l1 l2 l3 l4 m
def L_law__j1430 (again23 : (Int32 × pmM) → pmR) (l0 : Nat) (l1 : Nat) (l2 : Nat) (l3 : Nat) (l4 : Int32) (m : pmM) : pmR := L_law__j2232 again23 l0 l1 l2 l3 l4 m
def L_law__j1498 (again23 : (Int32 × pmM) → pmR) (l0 : Nat) (l1 : Nat) (l2 : Nat) (l3 : Nat) (l4 : Int32) (m : pmM) : pmR := L_law__j2232 again23 l0 l1 l2 l3 l4 m
def L_law__j1604 (again23 : (Int32 × pmM) → pmR) (l0 : Nat) (l1 : Nat) (l2 : Nat) (l3 : Nat) (l4 : Int32) (m : pmM) : pmR := L_law__j2232 again23 l0 l1 l2 l3 l4 m
def L_law__j1695 (again23 : (Int32 × pmM) → pmR) (l0 : Nat) (l1 : Nat) (l2 : Nat) (l3 : Nat) (l4 : Int32) (m : pmM) : pmR := L_law__j2232 again23 l0 l1 l2 l3 l4 m
def L_law__j1775 (again23 : (Int32 × pmM) → pmR) (l0 : Nat) (l1 : Nat) (l2 : Nat) (l3 : Nat) (l4 : Int32) (m : pmM) : pmR := L_law__j2232 again23 l0 l1 l2 l3 l4 m
def L_law__j1831 (again23 : (Int32 × pmM) → pmR) (l0 : Nat) (l1 : Nat) (l2 : Nat) (l3 : Nat) (l4 : Int32) (m : pmM) : pmR := L_law__j2232 again23 l0 l1 l2 l3 l4 m
def L_law__j1887 (again23 : (Int32 × pmM) → pmR) (l0 : Nat) (l1 : Nat) (l2 : Nat) (l3 : Nat) (l4 : Int32) (m : pmM) : pmR := L_law__j2232 again23 l0 l1 l2 l3 l4 m
def L_law__j1943 (again23 : (Int32 × pmM) → pmR) (l0 : Nat) (l1 : Nat) (l2 : Nat) (l3 : Nat) (l4 : Int32) (m : pmM) : pmR := L_law__j2232 again23 l0 l1 l2 l3 l4 m
def L_law__j2035 (again23 : (Int32 × pmM) → pmR) (l0 : Nat) (l1 : Nat) (l2 : Nat) (l3 : Nat) (l4 : Int32) (m : pmM) : pmR := L_law__j2232 again23 l0 l1 l2 l3 l4 m
def L_law__j2153 (again23 : (Int32 × pmM) → pmR) (l0 : Nat) (l1 : Nat) (l2 : Nat) (l3 : Nat) (l4 : Int32) (m : pmM) : pmR := L_law__j2232 again23 l0 l1 l2 l3 l4 m
def L_law__L23 (l0 : Nat) (l1 : Nat) (l2 : Nat) (l3 : Nat) (again23 : (Int32 × pmM) → pmR) (s23 : Int32 × pmM) : pmR := pm_len 100 l0 s23.2 fun x9 => if (x9 - 8) < s23.1 then (pm_oI 1 s23.2) else (pm_ld 100 l0 s23.1 s23.2 fun x10 => pm_bI (x10 &&& 63) fun x11 => if x11 = (0 : Int32) then (pm_ld 100 l0 (s23.1 + 1) s23.2 fun x12 => pm_ld 100 l0 (s23.1 + 2) s23.2 fun x13 => pm_ld 100 l0 (s23.1 + 3) s23.2 fun x14 => pm_ld 100 l0 (s23.1 + 4) s23.2 fun x15 => pm_ld 100 l0 (s23.1 + 5) s23.2 fun x16 => pm_rc 8 l1 s23.2 <| pm_cI (X8_feed l1 x12 x13 x14 x15 x16 s23.2) fun x18 m17 => pm_ld 100 l0 (s23.1 + 1) m17 fun x19 => pm_ld 100 l0 (s23.1 + 2) m17 fun x20 => pm_ld 100 l0 (s23.1 + 3) m17 fun x21 => pm_ld 100 l0 (s23.1 + 4) m17 fun x22 => pm_ld 100 l0 (s23.1 + 5) m17 fun x23 => pm_rc 9 l2 m17 <| pm_cI (X9_feed l2 x19 x20 x21 x22 x23 m17) fun x25 m24 => if x18 = x25 then (L_law__j2232 again23 l0 l1 l2 l3 s23.1 m24) else (pm_oI 0 m24)) else if x11 = (1 : Int32) then (pm_ld 100 l0 (s23.1 + 1) s23.2 fun x27 => pm_cI (L_page l1 x27 l3 s23.2) fun x29 m28 => pm_ld 100 l0 (s23.1 + 1) m28 fun x30 => pm_rc 9 l2 m28 <| pm_cI (X9_page l2 x30 m28) fun x32 m31 => pm_rc 9 l2 m31 <| pm_cI (X9_thrown l2 m31) fun x34 m33 => if x34 = x29 then (if x29 = 0 then (pm_ldL l3 0 m33 fun x35 => if (lg_cmp x35 x32.toInt64) = 0 then (L_law__j338 again23 l0 l1 l2 l3 s23.1 m33) else (pm_oI 0 m33)) else (L_law__j338 again23 l0 l1 l2 l3 s23.1 m33)) else (pm_oI 0 m33)) else if x11 = (2 : Int32) then (pm_ld 100 l0 (s23.1 + 1) s23.2 fun x36 => pm_cI (L_law l1 x36 l3 s23.2) fun x38 m37 => pm_ld 100 l0 (s23.1 + 1) m37 fun x39 => pm_rc 9 l2 m37 <| pm_cI (X9_law l2 x39 m37) fun x41 m40 => pm_rc 9 l2 m40 <| pm_cI (X9_thrown l2 m40) fun x43 m42 => if x43 = x38 then (if x38 = 0 then (pm_ldL l3 0 m42 fun x44 => if (lg_cmp x44 x41.toInt64) = 0 then (L_law__j394 again23 l0 l1 l2 l3 s23.1 m42) else (pm_oI 0 m42)) else (L_law__j394 again23 l0 l1 l2 l3 s23.1 m42)) else (pm_oI 0 m42)) else if x11 = (3 : Int32) then (pm_ld 100 l0 (s23.1 + 1) s23.2 fun x45 => pm_cI (L_work l1 x45 l3 s23.2) fun x47 m46 => pm_ld 100 l0 (s23.1 + 1) m46 fun x48 => pm_rc 9 l2 m46 <| pm_cI (X9_work l2 x48 m46) fun x50 m49 => pm_rc 9 l2 m49 <| pm_cI (X9_thrown l2 m49) fun x52 m51 => if x52 = x47 then (if x47 = 0 then (pm_ldL l3 0 m51 fun x53 => if (lg_cmp x53 x50.toInt64) = 0 then (L_law__j450 again23 l0 l1 l2 l3 s23.1 m51) else (pm_oI 0 m51)) else (L_law__j450 again23 l0 l1 l2 l3 s23.1 m51)) else (pm_oI 0 m51)) else if x11 = (4 : Int32) then (pm_ld 100 l0 (s23.1 + 1) s23.2 fun x54 => pm_cI (L_sentence l1 x54 l3 s23.2) fun x56 m55 => pm_ld 100 l0 (s23.1 + 1) m55 fun x57 => pm_rc 9 l2 m55 <| pm_cI (X9_sentence l2 x57 m55) fun x59 m58 => pm_rc 9 l2 m58 <| pm_cI (X9_thrown l2 m58) fun x61 m60 => if x61 = x56 then (if x56 = 0 then (pm_ldL l3 0 m60 fun x62 => if (lg_cmp x62 x59.toInt64) = 0 then (L_law__j506 again23 l0 l1 l2 l3 s23.1 m60) else (pm_oI 0 m60)) else (L_law__j506 again23 l0 l1 l2 l3 s23.1 m60)) else (pm_oI 0 m60)) else if x11 = (5 : Int32) then (pm_rc 8 l1 s23.2 <| pm_cI (X8_fault l1 s23.2) fun x64 m63 => pm_rc 9 l2 m63 <| pm_cI (X9_fault l2 m63) fun x66 m65 => if x64 = x66 then (L_law__j2232 again23 l0 l1 l2 l3 s23.1 m65) else (pm_oI 0 m65)) else if x11 = (6 : Int32) then (pm_rc 8 l1 s23.2 <| pm_cI (X8_undo l1 s23.2) fun x68 m67 => pm_rc 9 l2 m67 <| pm_cI (X9_undo l2 m67) fun x70 m69 => if x68 = x70 then (L_law__j2232 again23 l0 l1 l2 l3 s23.1 m69) else (pm_oI 0 m69)) else if x11 = (7 : Int32) then (pm_ld 100 l0 (s23.1 + 1) s23.2 fun x71 => pm_cI (L_told l1 x71 l3 s23.2) fun x73 m72 => pm_ld 100 l0 (s23.1 + 1) m72 fun x74 => pm_rc 9 l2 m72 <| pm_cI (X9_told l2 x74 m72) fun x76 m75 => pm_rc 9 l2 m75 <| pm_cI (X9_thrown l2 m75) fun x78 m77 => if x78 = x73 then (if x73 = 0 then (pm_ldL l3 0 m77 fun x79 => if (lg_cmp x79 x76.toInt64) = 0 then (L_law__j588 again23 l0 l1 l2 l3 s23.1 m77) else (pm_oI 0 m77)) else (L_law__j588 again23 l0 l1 l2 l3 s23.1 m77)) else (pm_oI 0 m77)) else if x11 = (8 : Int32) then (pm_ld 100 l0 (s23.1 + 1) s23.2 fun x80 => pm_ld 100 l0 (s23.1 + 2) s23.2 fun x81 => pm_cI (L_line l1 x80 x81 l3 s23.2) fun x83 m82 => pm_ld 100 l0 (s23.1 + 1) m82 fun x84 => pm_ld 100 l0 (s23.1 + 2) m82 fun x85 => pm_rc 9 l2 m82 <| pm_cI (X9_line l2 x84 x85 m82) fun x87 m86 => pm_rc 9 l2 m86 <| pm_cI (X9_thrown l2 m86) fun x89 m88 => if x89 = x83 then (if x83 = 0 then (pm_ldL l3 0 m88 fun x90 => if (lg_cmp x90 x87.toInt64) = 0 then (L_law__j656 again23 l0 l1 l2 l3 s23.1 m88) else (pm_oI 0 m88)) else (L_law__j656 again23 l0 l1 l2 l3 s23.1 m88)) else (pm_oI 0 m88)) else if x11 = (9 : Int32) then (pm_ld 100 l0 (s23.1 + 1) s23.2 fun x91 => pm_ld 100 l0 (s23.1 + 2) s23.2 fun x92 => pm_ld 100 l0 (s23.1 + 3) s23.2 fun x93 => pm_cI (L_word l1 x91 x92 x93 l3 s23.2) fun x95 m94 => pm_ld 100 l0 (s23.1 + 1) m94 fun x96 => pm_ld 100 l0 (s23.1 + 2) m94 fun x97 => pm_ld 100 l0 (s23.1 + 3) m94 fun x98 => pm_rc 9 l2 m94 <| pm_cI (X9_word l2 x96 x97 x98 m94) fun x100 m99 => pm_rc 9 l2 m99 <| pm_cI (X9_thrown l2 m99) fun x102 m101 => if x102 = x95 then (if x95 = 0 then (pm_ldL l3 0 m101 fun x103 => if (lg_cmp x103 x100.toInt64) = 0 then (L_law__j736 again23 l0 l1 l2 l3 s23.1 m101) else (pm_oI 0 m101)) else (L_law__j736 again23 l0 l1 l2 l3 s23.1 m101)) else (pm_oI 0 m101)) else if x11 = (10 : Int32) then (pm_ld 100 l0 (s23.1 + 1) s23.2 fun x104 => pm_cI (L_reads l1 x104 l3 s23.2) fun x106 m105 => pm_ld 100 l0 (s23.1 + 1) m105 fun x107 => pm_rc 9 l2 m105 <| pm_cI (X9_reads l2 x107 m105) fun x109 m108 => pm_rc 9 l2 m108 <| pm_cI (X9_thrown l2 m108) fun x111 m110 => if x111 = x106 then (if x106 = 0 then (pm_ldL l3 0 m110 fun x112 => if (lg_cmp x112 x109.toInt64) = 0 then (L_law__j792 again23 l0 l1 l2 l3 s23.1 m110) else (pm_oI 0 m110)) else (L_law__j792 again23 l0 l1 l2 l3 s23.1 m110)) else (pm_oI 0 m110)) else if x11 = (11 : Int32) then (pm_ld 100 l0 (s23.1 + 1) s23.2 fun x113 => pm_cI (L_cell l1 x113 l3 s23.2) fun x115 m114 => pm_ld 100 l0 (s23.1 + 1) m114 fun x116 => pm_rc 9 l2 m114 <| pm_cI (X9_cell l2 x116 m114) fun x118 m117 => pm_rc 9 l2 m117 <| pm_cI (X9_thrown l2 m117) fun x120 m119 => if x120 = x115 then (if x115 = 0 then (pm_ldL l3 0 m119 fun x121 => if (lg_cmp x121 x118.toInt64) = 0 then (L_law__j848 again23 l0 l1 l2 l3 s23.1 m119) else (pm_oI 0 m119)) else (L_law__j848 again23 l0 l1 l2 l3 s23.1 m119)) else (pm_oI 0 m119)) else if x11 = (12 : Int32) then (pm_ld 100 l0 (s23.1 + 1) s23.2 fun x122 => pm_ld 100 l0 (s23.1 + 2) s23.2 fun x123 => pm_ld 100 l0 (s23.1 + 3) s23.2 fun x124 => pm_cI (L_cost l1 x122 x123 x124 l3 s23.2) fun x126 m125 => pm_ld 100 l0 (s23.1 + 1) m125 fun x127 => pm_ld 100 l0 (s23.1 + 2) m125 fun x128 => pm_ld 100 l0 (s23.1 + 3) m125 fun x129 => pm_rc 9 l2 m125 <| pm_cI (X9_cost l2 x127 x128 x129 m125) fun x131 m130 => pm_rc 9 l2 m130 <| pm_cI (X9_thrown l2 m130) fun x133 m132 => if x133 = x126 then (if x126 = 0 then (pm_ldL l3 0 m132 fun x134 => if (lg_cmp x134 x131.toInt64) = 0 then (L_law__j928 again23 l0 l1 l2 l3 s23.1 m132) else (pm_oI 0 m132)) else (L_law__j928 again23 l0 l1 l2 l3 s23.1 m132)) else (pm_oI 0 m132)) else if x11 = (13 : Int32) then (pm_ld 100 l0 (s23.1 + 1) s23.2 fun x135 => pm_ld 100 l0 (s23.1 + 2) s23.2 fun x136 => pm_ld 100 l0 (s23.1 + 3) s23.2 fun x137 => pm_ld 100 l0 (s23.1 + 4) s23.2 fun x138 => pm_ld 100 l0 (s23.1 + 5) s23.2 fun x139 => pm_ld 100 l0 (s23.1 + 6) s23.2 fun x140 => pm_ld 100 l0 (s23.1 + 7) s23.2 fun x141 => pm_cI (L_would l1 x135 x136 x137 x138 x139 x140 x141 l3 s23.2) fun x143 m142 => pm_ld 100 l0 (s23.1 + 1) m142 fun x144 => pm_ld 100 l0 (s23.1 + 2) m142 fun x145 => pm_ld 100 l0 (s23.1 + 3) m142 fun x146 => pm_ld 100 l0 (s23.1 + 4) m142 fun x147 => pm_ld 100 l0 (s23.1 + 5) m142 fun x148 => pm_ld 100 l0 (s23.1 + 6) m142 fun x149 => pm_ld 100 l0 (s23.1 + 7) m142 fun x150 => pm_rc 9 l2 m142 <| pm_cI (X9_would l2 x144 x145 x146 x147 x148 x149 x150 m142) fun x152 m151 => pm_rc 9 l2 m151 <| pm_cI (X9_thrown l2 m151) fun x154 m153 => if x154 = x143 then (if x143 = 0 then (pm_ldL l3 0 m153 fun x155 => if (lg_cmp x155 x152.toInt64) = 0 then (L_law__j1060 again23 l0 l1 l2 l3 s23.1 m153) else (pm_oI 0 m153)) else (L_law__j1060 again23 l0 l1 l2 l3 s23.1 m153)) else (pm_oI 0 m153)) else if x11 = (14 : Int32) then (pm_ld 100 l0 (s23.1 + 1) s23.2 fun x156 => pm_ld 100 l0 (s23.1 + 2) s23.2 fun x157 => pm_cI (L_ahead l1 x156 x157 l3 s23.2) fun x159 m158 => pm_ld 100 l0 (s23.1 + 1) m158 fun x160 => pm_ld 100 l0 (s23.1 + 2) m158 fun x161 => pm_rc 9 l2 m158 <| pm_cI (X9_ahead l2 x160 x161 m158) fun x163 m162 => pm_rc 9 l2 m162 <| pm_cI (X9_thrown l2 m162) fun x165 m164 => if x165 = x159 then (if x159 = 0 then (pm_ldL l3 0 m164 fun x166 => if (lg_cmp x166 x163.toInt64) = 0 then (L_law__j1128 again23 l0 l1 l2 l3 s23.1 m164) else (pm_oI 0 m164)) else (L_law__j1128 again23 l0 l1 l2 l3 s23.1 m164)) else (pm_oI 0 m164)) else if x11 = (15 : Int32) then (pm_rc 8 l1 s23.2 <| pm_cI (X8_ends l1 s23.2) fun x168 m167 => pm_rc 9 l2 m167 <| pm_cI (X9_ends l2 m167) fun x170 m169 => if x168 = x170 then (L_law__j2232 again23 l0 l1 l2 l3 s23.1 m169) else (pm_oI 0 m169)) else if x11 = (16 : Int32) then (pm_rc 8 l1 s23.2 <| pm_cI (X8_says l1 s23.2) fun x172 m171 => pm_rc 9 l2 m171 <| pm_cI (X9_says l2 m171) fun x174 m173 => if x172 = x174 then (L_law__j2232 again23 l0 l1 l2 l3 s23.1 m173) else (pm_oI 0 m173)) else if x11 = (17 : Int32) then (pm_rc 8 l1 s23.2 <| pm_cL (X8_ways l1 s23.2) fun x176 m175 => pm_rc 9 l2 m175 <| pm_cL (X9_ways l2 m175) fun x178 m177 => if (lg_cmp x176 x178) = 0 then (L_law__j2232 again23 l0 l1 l2 l3 s23.1 m177) else (pm_oI 0 m177)) else if x11 = (18 : Int32) then (pm_rc 8 l1 s23.2 <| pm_cI (X8_strokes l1 s23.2) fun x180 m179 => pm_rc 9 l2 m179 <| pm_cI (X9_strokes l2 m179) fun x182 m181 => if x180 = x182 then (L_law__j2232 again23 l0 l1 l2 l3 s23.1 m181) else (pm_oI 0 m181)) else if x11 = (19 : Int32) then (pm_rc 8 l1 s23.2 <| pm_cL (X8_best l1 s23.2) fun x184 m183 => pm_rc 9 l2 m183 <| pm_cL (X9_best l2 m183) fun x186 m185 => if (lg_cmp x184 x186) = 0 then (L_law__j2232 again23 l0 l1 l2 l3 s23.1 m185) else (pm_oI 0 m185)) else if x11 = (20 : Int32) then (pm_ld 100 l0 (s23.1 + 1) s23.2 fun x187 => pm_cI (L_unlike l1 x187 l3 s23.2) fun x189 m188 => pm_ld 100 l0 (s23.1 + 1) m188 fun x190 => pm_rc 9 l2 m188 <| pm_cL (X9_unlike l2 x190 m188) fun x192 m191 => pm_rc 9 l2 m191 <| pm_cI (X9_thrown l2 m191) fun x194 m193 => if x194 = x189 then (if x189 = 0 then (pm_ldL l3 0 m193 fun x195 => if (lg_cmp x195 x192) = 0 then (L_law__j1250 again23 l0 l1 l2 l3 s23.1 m193) else (pm_oI 0 m193)) else (L_law__j1250 again23 l0 l1 l2 l3 s23.1 m193)) else (pm_oI 0 m193)) else if x11 = (21 : Int32) then (pm_ld 100 l0 (s23.1 + 1) s23.2 fun x196 => pm_cI (L_forged l1 x196 l3 s23.2) fun x198 m197 => pm_ld 100 l0 (s23.1 + 1) m197 fun x199 => pm_rc 9 l2 m197 <| pm_cI (X9_forged l2 x199 m197) fun x201 m200 => pm_rc 9 l2 m200 <| pm_cI (X9_thrown l2 m200) fun x203 m202 => if x203 = x198 then (if x198 = 0 then (pm_ldL l3 0 m202 fun x204 => if (lg_cmp x204 x201.toInt64) = 0 then (L_law__j1306 again23 l0 l1 l2 l3 s23.1 m202) else (pm_oI 0 m202)) else (L_law__j1306 again23 l0 l1 l2 l3 s23.1 m202)) else (pm_oI 0 m202)) else if x11 = (22 : Int32) then (pm_ld 100 l0 (s23.1 + 1) s23.2 fun x205 => pm_cI (L_value l1 x205 l3 s23.2) fun x207 m206 => pm_ld 100 l0 (s23.1 + 1) m206 fun x208 => pm_rc 9 l2 m206 <| pm_cI (X9_value l2 x208 m206) fun x210 m209 => pm_rc 9 l2 m209 <| pm_cI (X9_thrown l2 m209) fun x212 m211 => if x212 = x207 then (if x207 = 0 then (pm_ldL l3 0 m211 fun x213 => if (lg_cmp x213 x210.toInt64) = 0 then (L_law__j1362 again23 l0 l1 l2 l3 s23.1 m211) else (pm_oI 0 m211)) else (L_law__j1362 again23 l0 l1 l2 l3 s23.1 m211)) else (pm_oI 0 m211)) else if x11 = (23 : Int32) then (pm_ld 100 l0 (s23.1 + 1) s23.2 fun x214 => pm_ld 100 l0 (s23.1 + 2) s23.2 fun x215 => pm_cI (L_argument l1 x214 x215 l3 s23.2) fun x217 m216 => pm_ld 100 l0 (s23.1 + 1) m216 fun x218 => pm_ld 100 l0 (s23.1 + 2) m216 fun x219 => pm_rc 9 l2 m216 <| pm_cI (X9_argument l2 x218 x219 m216) fun x221 m220 => pm_rc 9 l2 m220 <| pm_cI (X9_thrown l2 m220) fun x223 m222 => if x223 = x217 then (if x217 = 0 then (pm_ldL l3 0 m222 fun x224 => if (lg_cmp x224 x221.toInt64) = 0 then (L_law__j1430 again23 l0 l1 l2 l3 s23.1 m222) else (pm_oI 0 m222)) else (L_law__j1430 again23 l0 l1 l2 l3 s23.1 m222)) else (pm_oI 0 m222)) else if x11 = (24 : Int32) then (pm_ld 100 l0 (s23.1 + 1) s23.2 fun x225 => pm_ld 100 l0 (s23.1 + 2) s23.2 fun x226 => pm_cI (L_common l1 x225 x226 l3 s23.2) fun x228 m227 => pm_ld 100 l0 (s23.1 + 1) m227 fun x229 => pm_ld 100 l0 (s23.1 + 2) m227 fun x230 => pm_rc 9 l2 m227 <| pm_cI (X9_common l2 x229 x230 m227) fun x232 m231 => pm_rc 9 l2 m231 <| pm_cI (X9_thrown l2 m231) fun x234 m233 => if x234 = x228 then (if x228 = 0 then (pm_ldL l3 0 m233 fun x235 => if (lg_cmp x235 x232.toInt64) = 0 then (L_law__j1498 again23 l0 l1 l2 l3 s23.1 m233) else (pm_oI 0 m233)) else (L_law__j1498 again23 l0 l1 l2 l3 s23.1 m233)) else (pm_oI 0 m233)) else if x11 = (25 : Int32) then (pm_rc 8 l1 s23.2 <| pm_cI (X8_apart l1 s23.2) fun x237 m236 => pm_rc 9 l2 m236 <| pm_cI (X9_apart l2 m236) fun x239 m238 => if x237 = x239 then (L_law__j2232 again23 l0 l1 l2 l3 s23.1 m238) else (pm_oI 0 m238)) else if x11 = (26 : Int32) then (pm_rc 8 l1 s23.2 <| pm_cI (X8_mends l1 s23.2) fun x241 m240 => pm_rc 9 l2 m240 <| pm_cI (X9_mends l2 m240) fun x243 m242 => if x241 = x243 then (L_law__j2232 again23 l0 l1 l2 l3 s23.1 m242) else (pm_oI 0 m242)) else if x11 = (27 : Int32) then (pm_ld 100 l0 (s23.1 + 1) s23.2 fun x244 => pm_ld 100 l0 (s23.1 + 2) s23.2 fun x245 => pm_ld 100 l0 (s23.1 + 3) s23.2 fun x246 => pm_cI (L_duel l1 x244 x245 x246 l3 s23.2) fun x248 m247 => pm_ld 100 l0 (s23.1 + 1) m247 fun x249 => pm_ld 100 l0 (s23.1 + 2) m247 fun x250 => pm_ld 100 l0 (s23.1 + 3) m247 fun x251 => pm_rc 9 l2 m247 <| pm_cI (X9_duel l2 x249 x250 x251 m247) fun x253 m252 => pm_rc 9 l2 m252 <| pm_cI (X9_thrown l2 m252) fun x255 m254 => if x255 = x248 then (if x248 = 0 then (pm_ldL l3 0 m254 fun x256 => if (lg_cmp x256 x253.toInt64) = 0 then (L_law__j1604 again23 l0 l1 l2 l3 s23.1 m254) else (pm_oI 0 m254)) else (L_law__j1604 again23 l0 l1 l2 l3 s23.1 m254)) else (pm_oI 0 m254)) else if x11 = (28 : Int32) then (pm_ld 100 l0 (s23.1 + 1) s23.2 fun x257 => pm_ld 100 l0 (s23.1 + 2) s23.2 fun x258 => pm_ld 100 l0 (s23.1 + 3) s23.2 fun x259 => pm_ld 100 l0 (s23.1 + 4) s23.2 fun x260 => pm_cI (L_chance l1 x257 x258 x259 x260 l3 s23.2) fun x262 m261 => pm_ld 100 l0 (s23.1 + 1) m261 fun x263 => pm_ld 100 l0 (s23.1 + 2) m261 fun x264 => pm_ld 100 l0 (s23.1 + 3) m261 fun x265 => pm_ld 100 l0 (s23.1 + 4) m261 fun x266 => pm_rc 9 l2 m261 <| pm_cL (X9_chance l2 x263 x264 x265 x266 m261) fun x268 m267 => pm_rc 9 l2 m267 <| pm_cI (X9_thrown l2 m267) fun x270 m269 => if x270 = x262 then (if x262 = 0 then (pm_ldL l3 0 m269 fun x271 => if (lg_cmp x271 x268) = 0 then (L_law__j1695 again23 l0 l1 l2 l3 s23.1 m269) else (pm_oI 0 m269)) else (L_law__j1695 again23 l0 l1 l2 l3 s23.1 m269)) else (pm_oI 0 m269)) else if x11 = (29 : Int32) then (pm_ld 100 l0 (s23.1 + 1) s23.2 fun x272 => pm_ld 100 l0 (s23.1 + 2) s23.2 fun x273 => pm_ld 100 l0 (s23.1 + 3) s23.2 fun x274 => pm_cI (L_share l1 x272 x273 x274 l3 s23.2) fun x276 m275 => pm_ld 100 l0 (s23.1 + 1) m275 fun x277 => pm_ld 100 l0 (s23.1 + 2) m275 fun x278 => pm_ld 100 l0 (s23.1 + 3) m275 fun x279 => pm_rc 9 l2 m275 <| pm_cI (X9_share l2 x277 x278 x279 m275) fun x281 m280 => pm_rc 9 l2 m280 <| pm_cI (X9_thrown l2 m280) fun x283 m282 => if x283 = x276 then (if x276 = 0 then (pm_ldL l3 0 m282 fun x284 => if (lg_cmp x284 x281.toInt64) = 0 then (L_law__j1775 again23 l0 l1 l2 l3 s23.1 m282) else (pm_oI 0 m282)) else (L_law__j1775 again23 l0 l1 l2 l3 s23.1 m282)) else (pm_oI 0 m282)) else if x11 = (30 : Int32) then (pm_ld 100 l0 (s23.1 + 1) s23.2 fun x285 => pm_cI (L_often l1 x285 l3 s23.2) fun x287 m286 => pm_ld 100 l0 (s23.1 + 1) m286 fun x288 => pm_rc 9 l2 m286 <| pm_cI (X9_often l2 x288 m286) fun x290 m289 => pm_rc 9 l2 m289 <| pm_cI (X9_thrown l2 m289) fun x292 m291 => if x292 = x287 then (if x287 = 0 then (pm_ldL l3 0 m291 fun x293 => if (lg_cmp x293 x290.toInt64) = 0 then (L_law__j1831 again23 l0 l1 l2 l3 s23.1 m291) else (pm_oI 0 m291)) else (L_law__j1831 again23 l0 l1 l2 l3 s23.1 m291)) else (pm_oI 0 m291)) else if x11 = (31 : Int32) then (pm_ld 100 l0 (s23.1 + 1) s23.2 fun x294 => pm_cI (L_deeds l1 x294 l3 s23.2) fun x296 m295 => pm_ld 100 l0 (s23.1 + 1) m295 fun x297 => pm_rc 9 l2 m295 <| pm_cI (X9_deeds l2 x297 m295) fun x299 m298 => pm_rc 9 l2 m298 <| pm_cI (X9_thrown l2 m298) fun x301 m300 => if x301 = x296 then (if x296 = 0 then (pm_ldL l3 0 m300 fun x302 => if (lg_cmp x302 x299.toInt64) = 0 then (L_law__j1887 again23 l0 l1 l2 l3 s23.1 m300) else (pm_oI 0 m300)) else (L_law__j1887 again23 l0 l1 l2 l3 s23.1 m300)) else (pm_oI 0 m300)) else if x11 = (32 : Int32) then (pm_ld 100 l0 (s23.1 + 1) s23.2 fun x303 => pm_cI (L_longest l1 x303 l3 s23.2) fun x305 m304 => pm_ld 100 l0 (s23.1 + 1) m304 fun x306 => pm_rc 9 l2 m304 <| pm_cI (X9_longest l2 x306 m304) fun x308 m307 => pm_rc 9 l2 m307 <| pm_cI (X9_thrown l2 m307) fun x310 m309 => if x310 = x305 then (if x305 = 0 then (pm_ldL l3 0 m309 fun x311 => if (lg_cmp x311 x308.toInt64) = 0 then (L_law__j1943 again23 l0 l1 l2 l3 s23.1 m309) else (pm_oI 0 m309)) else (L_law__j1943 again23 l0 l1 l2 l3 s23.1 m309)) else (pm_oI 0 m309)) else if x11 = (33 : Int32) then (pm_ld 100 l0 (s23.1 + 1) s23.2 fun x312 => pm_ld 100 l0 (s23.1 + 2) s23.2 fun x313 => pm_ld 100 l0 (s23.1 + 3) s23.2 fun x314 => pm_ld 100 l0 (s23.1 + 4) s23.2 fun x315 => pm_cI (L_hand l1 x312 x313 x314 x315 l3 s23.2) fun x317 m316 => pm_ld 100 l0 (s23.1 + 1) m316 fun x318 => pm_ld 100 l0 (s23.1 + 2) m316 fun x319 => pm_ld 100 l0 (s23.1 + 3) m316 fun x320 => pm_ld 100 l0 (s23.1 + 4) m316 fun x321 => pm_rc 9 l2 m316 <| pm_cI (X9_hand l2 x318 x319 x320 x321 m316) fun x323 m322 => pm_rc 9 l2 m322 <| pm_cI (X9_thrown l2 m322) fun x325 m324 => if x325 = x317 then (if x317 = 0 then (pm_ldL l3 0 m324 fun x326 => if (lg_cmp x326 x323.toInt64) = 0 then (L_law__j2035 again23 l0 l1 l2 l3 s23.1 m324) else (pm_oI 0 m324)) else (L_law__j2035 again23 l0 l1 l2 l3 s23.1 m324)) else (pm_oI 0 m324)) else if x11 = (34 : Int32) then (pm_ld 100 l0 (s23.1 + 1) s23.2 fun x327 => pm_ld 100 l0 (s23.1 + 2) s23.2 fun x328 => pm_ld 100 l0 (s23.1 + 3) s23.2 fun x329 => pm_ld 100 l0 (s23.1 + 4) s23.2 fun x330 => pm_ld 100 l0 (s23.1 + 5) s23.2 fun x331 => pm_ld 100 l0 (s23.1 + 6) s23.2 fun x332 => pm_cI (L_span l1 x327 x328 x329 x330 x331 x332 l3 s23.2) fun x334 m333 => pm_ld 100 l0 (s23.1 + 1) m333 fun x335 => pm_ld 100 l0 (s23.1 + 2) m333 fun x336 => pm_ld 100 l0 (s23.1 + 3) m333 fun x337 => pm_ld 100 l0 (s23.1 + 4) m333 fun x338 => pm_ld 100 l0 (s23.1 + 5) m333 fun x339 => pm_ld 100 l0 (s23.1 + 6) m333 fun x340 => pm_rc 9 l2 m333 <| pm_cI (X9_span l2 x335 x336 x337 x338 x339 x340 m333) fun x342 m341 => pm_rc 9 l2 m341 <| pm_cI (X9_thrown l2 m341) fun x344 m343 => if x344 = x334 then (if x334 = 0 then (pm_ldL l3 0 m343 fun x345 => if (lg_cmp x345 x342.toInt64) = 0 then (L_law__j2153 again23 l0 l1 l2 l3 s23.1 m343) else (pm_oI 0 m343)) else (L_law__j2153 again23 l0 l1 l2 l3 s23.1 m343)) else (pm_oI 0 m343)) else if x11 = (35 : Int32) then (pm_rc 8 l1 s23.2 <| pm_cI (X8_image l1 s23.2) fun x347 m346 => pm_rc 9 l2 m346 <| pm_cI (X9_image l2 m346) fun x349 m348 => if x347 = x349 then (L_law__j2232 again23 l0 l1 l2 l3 s23.1 m348) else (pm_oI 0 m348)) else if x11 = (36 : Int32) then (pm_rc 8 l1 s23.2 <| pm_cI (X8_restore l1 s23.2) fun x351 m350 => pm_rc 9 l2 m350 <| pm_cI (X9_restore l2 m350) fun x353 m352 => if x351 = x353 then (L_law__j2232 again23 l0 l1 l2 l3 s23.1 m352) else (pm_oI 0 m352)) else if x11 = (37 : Int32) then (pm_ld 100 l0 (s23.1 + 1) s23.2 fun x354 => pm_rc 8 l1 s23.2 <| pm_cI (X8_status l1 x354 s23.2) fun x356 m355 => pm_ld 100 l0 (s23.1 + 1) m355 fun x357 => pm_rc 9 l2 m355 <| pm_cI (X9_status l2 x357 m355) fun x359 m358 => if x356 = x359 then (L_law__j2232 again23 l0 l1 l2 l3 s23.1 m358) else (pm_oI 0 m358)) else if x11 = (38 : Int32) then (pm_ld 100 l0 (s23.1 + 1) s23.2 fun x360 => pm_rc 8 l1 s23.2 <| pm_cI (X8_count l1 x360 s23.2) fun x362 m361 => pm_ld 100 l0 (s23.1 + 1) m361 fun x363 => pm_rc 9 l2 m361 <| pm_cI (X9_count l2 x363 m361) fun x365 m364 => if x362 = x365 then (L_law__j2232 again23 l0 l1 l2 l3 s23.1 m364) else (pm_oI 0 m364)) else (L_law__j2232 again23 l0 l1 l2 l3 s23.1 s23.2))
def L_law_ (a0 : Nat) (m : pmM) : pmR := pm_nw 8 15 m fun r1 m2 => pm_cV (X8_init r1 m2) fun m3 => pm_nw 9 55 m3 fun r4 m5 => pm_cV (X9_init r4 m5) fun m6 => pm_na 102 1 m6 fun r7 m8 => pm_lp pm_N (L_law__L23 a0 r1 r4 r7) (0, m8)
set_option maxRecDepth 100000 in
set_option maxHeartbeats 4000000 in
theorem gL_law__j2232 (hfl : l.flags = flags0) (again23 : (Int32 × pmM) → pmR) (l0 : Nat) (l1 : Nat) (l2 : Nat) (l3 : Nat) (l4 : Int32) (m : pmM) (hag23 : ∀ s : Int32 × pmM, pm_G l Γ zL_law_ (d + 50) 23 [.ref l0, .ref l1, .ref l2, .ref l3, .int s.1, pmU, pmU, pmU] [] s.2 (again23 s)) : pm_G l Γ zL_law_ (d + 50) 2232 [.ref l0, .ref l1, .ref l2, .ref l3, .int l4, pmU, pmU, pmU] [] m (L_law__j2232 again23 l0 l1 l2 l3 l4 m) := by
  unfold L_law__j2232
  refine pm_iincn (y := zL_law_) dL_law__2232 rfl ki_8 rfl (Nat.le_of_ble_eq_true rfl) (fun x26 => ?_)
  refine pm_eqls (ls2 := [.ref l0, .ref l1, .ref l2, .ref l3, .int x26, pmU, pmU, pmU]) rfl ?_
  refine pm_goto (tgt := 23) dL_law__2235 rfl ?_
  exact hag23 (x26, m)
set_option maxRecDepth 100000 in
set_option maxHeartbeats 4000000 in
theorem gL_law__j338 (hfl : l.flags = flags0) (again23 : (Int32 × pmM) → pmR) (l0 : Nat) (l1 : Nat) (l2 : Nat) (l3 : Nat) (l4 : Int32) (m : pmM) (hag23 : ∀ s : Int32 × pmM, pm_G l Γ zL_law_ (d + 50) 23 [.ref l0, .ref l1, .ref l2, .ref l3, .int s.1, pmU, pmU, pmU] [] s.2 (again23 s)) : pm_G l Γ zL_law_ (d + 50) 338 [.ref l0, .ref l1, .ref l2, .ref l3, .int l4, pmU, pmU, pmU] [] m (L_law__j338 again23 l0 l1 l2 l3 l4 m) := by
  unfold L_law__j338
  refine pm_goto (tgt := 2232) dL_law__338 rfl ?_
  exact gL_law__j2232 hfl again23 l0 l1 l2 l3 l4 m hag23
set_option maxRecDepth 100000 in
set_option maxHeartbeats 4000000 in
theorem gL_law__j394 (hfl : l.flags = flags0) (again23 : (Int32 × pmM) → pmR) (l0 : Nat) (l1 : Nat) (l2 : Nat) (l3 : Nat) (l4 : Int32) (m : pmM) (hag23 : ∀ s : Int32 × pmM, pm_G l Γ zL_law_ (d + 50) 23 [.ref l0, .ref l1, .ref l2, .ref l3, .int s.1, pmU, pmU, pmU] [] s.2 (again23 s)) : pm_G l Γ zL_law_ (d + 50) 394 [.ref l0, .ref l1, .ref l2, .ref l3, .int l4, pmU, pmU, pmU] [] m (L_law__j394 again23 l0 l1 l2 l3 l4 m) := by
  unfold L_law__j394
  refine pm_goto (tgt := 2232) dL_law__394 rfl ?_
  exact gL_law__j2232 hfl again23 l0 l1 l2 l3 l4 m hag23
set_option maxRecDepth 100000 in
set_option maxHeartbeats 4000000 in
theorem gL_law__j450 (hfl : l.flags = flags0) (again23 : (Int32 × pmM) → pmR) (l0 : Nat) (l1 : Nat) (l2 : Nat) (l3 : Nat) (l4 : Int32) (m : pmM) (hag23 : ∀ s : Int32 × pmM, pm_G l Γ zL_law_ (d + 50) 23 [.ref l0, .ref l1, .ref l2, .ref l3, .int s.1, pmU, pmU, pmU] [] s.2 (again23 s)) : pm_G l Γ zL_law_ (d + 50) 450 [.ref l0, .ref l1, .ref l2, .ref l3, .int l4, pmU, pmU, pmU] [] m (L_law__j450 again23 l0 l1 l2 l3 l4 m) := by
  unfold L_law__j450
  refine pm_goto (tgt := 2232) dL_law__450 rfl ?_
  exact gL_law__j2232 hfl again23 l0 l1 l2 l3 l4 m hag23
set_option maxRecDepth 100000 in
set_option maxHeartbeats 4000000 in
theorem gL_law__j506 (hfl : l.flags = flags0) (again23 : (Int32 × pmM) → pmR) (l0 : Nat) (l1 : Nat) (l2 : Nat) (l3 : Nat) (l4 : Int32) (m : pmM) (hag23 : ∀ s : Int32 × pmM, pm_G l Γ zL_law_ (d + 50) 23 [.ref l0, .ref l1, .ref l2, .ref l3, .int s.1, pmU, pmU, pmU] [] s.2 (again23 s)) : pm_G l Γ zL_law_ (d + 50) 506 [.ref l0, .ref l1, .ref l2, .ref l3, .int l4, pmU, pmU, pmU] [] m (L_law__j506 again23 l0 l1 l2 l3 l4 m) := by
  unfold L_law__j506
  refine pm_goto (tgt := 2232) dL_law__506 rfl ?_
  exact gL_law__j2232 hfl again23 l0 l1 l2 l3 l4 m hag23
set_option maxRecDepth 100000 in
set_option maxHeartbeats 4000000 in
theorem gL_law__j588 (hfl : l.flags = flags0) (again23 : (Int32 × pmM) → pmR) (l0 : Nat) (l1 : Nat) (l2 : Nat) (l3 : Nat) (l4 : Int32) (m : pmM) (hag23 : ∀ s : Int32 × pmM, pm_G l Γ zL_law_ (d + 50) 23 [.ref l0, .ref l1, .ref l2, .ref l3, .int s.1, pmU, pmU, pmU] [] s.2 (again23 s)) : pm_G l Γ zL_law_ (d + 50) 588 [.ref l0, .ref l1, .ref l2, .ref l3, .int l4, pmU, pmU, pmU] [] m (L_law__j588 again23 l0 l1 l2 l3 l4 m) := by
  unfold L_law__j588
  refine pm_goto (tgt := 2232) dL_law__588 rfl ?_
  exact gL_law__j2232 hfl again23 l0 l1 l2 l3 l4 m hag23
set_option maxRecDepth 100000 in
set_option maxHeartbeats 4000000 in
theorem gL_law__j656 (hfl : l.flags = flags0) (again23 : (Int32 × pmM) → pmR) (l0 : Nat) (l1 : Nat) (l2 : Nat) (l3 : Nat) (l4 : Int32) (m : pmM) (hag23 : ∀ s : Int32 × pmM, pm_G l Γ zL_law_ (d + 50) 23 [.ref l0, .ref l1, .ref l2, .ref l3, .int s.1, pmU, pmU, pmU] [] s.2 (again23 s)) : pm_G l Γ zL_law_ (d + 50) 656 [.ref l0, .ref l1, .ref l2, .ref l3, .int l4, pmU, pmU, pmU] [] m (L_law__j656 again23 l0 l1 l2 l3 l4 m) := by
  unfold L_law__j656
  refine pm_goto (tgt := 2232) dL_law__656 rfl ?_
  exact gL_law__j2232 hfl again23 l0 l1 l2 l3 l4 m hag23
set_option maxRecDepth 100000 in
set_option maxHeartbeats 4000000 in
theorem gL_law__j736 (hfl : l.flags = flags0) (again23 : (Int32 × pmM) → pmR) (l0 : Nat) (l1 : Nat) (l2 : Nat) (l3 : Nat) (l4 : Int32) (m : pmM) (hag23 : ∀ s : Int32 × pmM, pm_G l Γ zL_law_ (d + 50) 23 [.ref l0, .ref l1, .ref l2, .ref l3, .int s.1, pmU, pmU, pmU] [] s.2 (again23 s)) : pm_G l Γ zL_law_ (d + 50) 736 [.ref l0, .ref l1, .ref l2, .ref l3, .int l4, pmU, pmU, pmU] [] m (L_law__j736 again23 l0 l1 l2 l3 l4 m) := by
  unfold L_law__j736
  refine pm_goto (tgt := 2232) dL_law__736 rfl ?_
  exact gL_law__j2232 hfl again23 l0 l1 l2 l3 l4 m hag23
set_option maxRecDepth 100000 in
set_option maxHeartbeats 4000000 in
theorem gL_law__j792 (hfl : l.flags = flags0) (again23 : (Int32 × pmM) → pmR) (l0 : Nat) (l1 : Nat) (l2 : Nat) (l3 : Nat) (l4 : Int32) (m : pmM) (hag23 : ∀ s : Int32 × pmM, pm_G l Γ zL_law_ (d + 50) 23 [.ref l0, .ref l1, .ref l2, .ref l3, .int s.1, pmU, pmU, pmU] [] s.2 (again23 s)) : pm_G l Γ zL_law_ (d + 50) 792 [.ref l0, .ref l1, .ref l2, .ref l3, .int l4, pmU, pmU, pmU] [] m (L_law__j792 again23 l0 l1 l2 l3 l4 m) := by
  unfold L_law__j792
  refine pm_goto (tgt := 2232) dL_law__792 rfl ?_
  exact gL_law__j2232 hfl again23 l0 l1 l2 l3 l4 m hag23
set_option maxRecDepth 100000 in
set_option maxHeartbeats 4000000 in
theorem gL_law__j848 (hfl : l.flags = flags0) (again23 : (Int32 × pmM) → pmR) (l0 : Nat) (l1 : Nat) (l2 : Nat) (l3 : Nat) (l4 : Int32) (m : pmM) (hag23 : ∀ s : Int32 × pmM, pm_G l Γ zL_law_ (d + 50) 23 [.ref l0, .ref l1, .ref l2, .ref l3, .int s.1, pmU, pmU, pmU] [] s.2 (again23 s)) : pm_G l Γ zL_law_ (d + 50) 848 [.ref l0, .ref l1, .ref l2, .ref l3, .int l4, pmU, pmU, pmU] [] m (L_law__j848 again23 l0 l1 l2 l3 l4 m) := by
  unfold L_law__j848
  refine pm_goto (tgt := 2232) dL_law__848 rfl ?_
  exact gL_law__j2232 hfl again23 l0 l1 l2 l3 l4 m hag23
set_option maxRecDepth 100000 in
set_option maxHeartbeats 4000000 in
theorem gL_law__j928 (hfl : l.flags = flags0) (again23 : (Int32 × pmM) → pmR) (l0 : Nat) (l1 : Nat) (l2 : Nat) (l3 : Nat) (l4 : Int32) (m : pmM) (hag23 : ∀ s : Int32 × pmM, pm_G l Γ zL_law_ (d + 50) 23 [.ref l0, .ref l1, .ref l2, .ref l3, .int s.1, pmU, pmU, pmU] [] s.2 (again23 s)) : pm_G l Γ zL_law_ (d + 50) 928 [.ref l0, .ref l1, .ref l2, .ref l3, .int l4, pmU, pmU, pmU] [] m (L_law__j928 again23 l0 l1 l2 l3 l4 m) := by
  unfold L_law__j928
  refine pm_goto (tgt := 2232) dL_law__928 rfl ?_
  exact gL_law__j2232 hfl again23 l0 l1 l2 l3 l4 m hag23
set_option maxRecDepth 100000 in
set_option maxHeartbeats 4000000 in
theorem gL_law__j1060 (hfl : l.flags = flags0) (again23 : (Int32 × pmM) → pmR) (l0 : Nat) (l1 : Nat) (l2 : Nat) (l3 : Nat) (l4 : Int32) (m : pmM) (hag23 : ∀ s : Int32 × pmM, pm_G l Γ zL_law_ (d + 50) 23 [.ref l0, .ref l1, .ref l2, .ref l3, .int s.1, pmU, pmU, pmU] [] s.2 (again23 s)) : pm_G l Γ zL_law_ (d + 50) 1060 [.ref l0, .ref l1, .ref l2, .ref l3, .int l4, pmU, pmU, pmU] [] m (L_law__j1060 again23 l0 l1 l2 l3 l4 m) := by
  unfold L_law__j1060
  refine pm_goto (tgt := 2232) dL_law__1060 rfl ?_
  exact gL_law__j2232 hfl again23 l0 l1 l2 l3 l4 m hag23
set_option maxRecDepth 100000 in
set_option maxHeartbeats 4000000 in
theorem gL_law__j1128 (hfl : l.flags = flags0) (again23 : (Int32 × pmM) → pmR) (l0 : Nat) (l1 : Nat) (l2 : Nat) (l3 : Nat) (l4 : Int32) (m : pmM) (hag23 : ∀ s : Int32 × pmM, pm_G l Γ zL_law_ (d + 50) 23 [.ref l0, .ref l1, .ref l2, .ref l3, .int s.1, pmU, pmU, pmU] [] s.2 (again23 s)) : pm_G l Γ zL_law_ (d + 50) 1128 [.ref l0, .ref l1, .ref l2, .ref l3, .int l4, pmU, pmU, pmU] [] m (L_law__j1128 again23 l0 l1 l2 l3 l4 m) := by
  unfold L_law__j1128
  refine pm_goto (tgt := 2232) dL_law__1128 rfl ?_
  exact gL_law__j2232 hfl again23 l0 l1 l2 l3 l4 m hag23
set_option maxRecDepth 100000 in
set_option maxHeartbeats 4000000 in
theorem gL_law__j1250 (hfl : l.flags = flags0) (again23 : (Int32 × pmM) → pmR) (l0 : Nat) (l1 : Nat) (l2 : Nat) (l3 : Nat) (l4 : Int32) (m : pmM) (hag23 : ∀ s : Int32 × pmM, pm_G l Γ zL_law_ (d + 50) 23 [.ref l0, .ref l1, .ref l2, .ref l3, .int s.1, pmU, pmU, pmU] [] s.2 (again23 s)) : pm_G l Γ zL_law_ (d + 50) 1250 [.ref l0, .ref l1, .ref l2, .ref l3, .int l4, pmU, pmU, pmU] [] m (L_law__j1250 again23 l0 l1 l2 l3 l4 m) := by
  unfold L_law__j1250
  refine pm_goto (tgt := 2232) dL_law__1250 rfl ?_
  exact gL_law__j2232 hfl again23 l0 l1 l2 l3 l4 m hag23
set_option maxRecDepth 100000 in
set_option maxHeartbeats 4000000 in
theorem gL_law__j1306 (hfl : l.flags = flags0) (again23 : (Int32 × pmM) → pmR) (l0 : Nat) (l1 : Nat) (l2 : Nat) (l3 : Nat) (l4 : Int32) (m : pmM) (hag23 : ∀ s : Int32 × pmM, pm_G l Γ zL_law_ (d + 50) 23 [.ref l0, .ref l1, .ref l2, .ref l3, .int s.1, pmU, pmU, pmU] [] s.2 (again23 s)) : pm_G l Γ zL_law_ (d + 50) 1306 [.ref l0, .ref l1, .ref l2, .ref l3, .int l4, pmU, pmU, pmU] [] m (L_law__j1306 again23 l0 l1 l2 l3 l4 m) := by
  unfold L_law__j1306
  refine pm_goto (tgt := 2232) dL_law__1306 rfl ?_
  exact gL_law__j2232 hfl again23 l0 l1 l2 l3 l4 m hag23
set_option maxRecDepth 100000 in
set_option maxHeartbeats 4000000 in
theorem gL_law__j1362 (hfl : l.flags = flags0) (again23 : (Int32 × pmM) → pmR) (l0 : Nat) (l1 : Nat) (l2 : Nat) (l3 : Nat) (l4 : Int32) (m : pmM) (hag23 : ∀ s : Int32 × pmM, pm_G l Γ zL_law_ (d + 50) 23 [.ref l0, .ref l1, .ref l2, .ref l3, .int s.1, pmU, pmU, pmU] [] s.2 (again23 s)) : pm_G l Γ zL_law_ (d + 50) 1362 [.ref l0, .ref l1, .ref l2, .ref l3, .int l4, pmU, pmU, pmU] [] m (L_law__j1362 again23 l0 l1 l2 l3 l4 m) := by
  unfold L_law__j1362
  refine pm_goto (tgt := 2232) dL_law__1362 rfl ?_
  exact gL_law__j2232 hfl again23 l0 l1 l2 l3 l4 m hag23
set_option maxRecDepth 100000 in
set_option maxHeartbeats 4000000 in
theorem gL_law__j1430 (hfl : l.flags = flags0) (again23 : (Int32 × pmM) → pmR) (l0 : Nat) (l1 : Nat) (l2 : Nat) (l3 : Nat) (l4 : Int32) (m : pmM) (hag23 : ∀ s : Int32 × pmM, pm_G l Γ zL_law_ (d + 50) 23 [.ref l0, .ref l1, .ref l2, .ref l3, .int s.1, pmU, pmU, pmU] [] s.2 (again23 s)) : pm_G l Γ zL_law_ (d + 50) 1430 [.ref l0, .ref l1, .ref l2, .ref l3, .int l4, pmU, pmU, pmU] [] m (L_law__j1430 again23 l0 l1 l2 l3 l4 m) := by
  unfold L_law__j1430
  refine pm_goto (tgt := 2232) dL_law__1430 rfl ?_
  exact gL_law__j2232 hfl again23 l0 l1 l2 l3 l4 m hag23
set_option maxRecDepth 100000 in
set_option maxHeartbeats 4000000 in
theorem gL_law__j1498 (hfl : l.flags = flags0) (again23 : (Int32 × pmM) → pmR) (l0 : Nat) (l1 : Nat) (l2 : Nat) (l3 : Nat) (l4 : Int32) (m : pmM) (hag23 : ∀ s : Int32 × pmM, pm_G l Γ zL_law_ (d + 50) 23 [.ref l0, .ref l1, .ref l2, .ref l3, .int s.1, pmU, pmU, pmU] [] s.2 (again23 s)) : pm_G l Γ zL_law_ (d + 50) 1498 [.ref l0, .ref l1, .ref l2, .ref l3, .int l4, pmU, pmU, pmU] [] m (L_law__j1498 again23 l0 l1 l2 l3 l4 m) := by
  unfold L_law__j1498
  refine pm_goto (tgt := 2232) dL_law__1498 rfl ?_
  exact gL_law__j2232 hfl again23 l0 l1 l2 l3 l4 m hag23
set_option maxRecDepth 100000 in
set_option maxHeartbeats 4000000 in
theorem gL_law__j1604 (hfl : l.flags = flags0) (again23 : (Int32 × pmM) → pmR) (l0 : Nat) (l1 : Nat) (l2 : Nat) (l3 : Nat) (l4 : Int32) (m : pmM) (hag23 : ∀ s : Int32 × pmM, pm_G l Γ zL_law_ (d + 50) 23 [.ref l0, .ref l1, .ref l2, .ref l3, .int s.1, pmU, pmU, pmU] [] s.2 (again23 s)) : pm_G l Γ zL_law_ (d + 50) 1604 [.ref l0, .ref l1, .ref l2, .ref l3, .int l4, pmU, pmU, pmU] [] m (L_law__j1604 again23 l0 l1 l2 l3 l4 m) := by
  unfold L_law__j1604
  refine pm_goto (tgt := 2232) dL_law__1604 rfl ?_
  exact gL_law__j2232 hfl again23 l0 l1 l2 l3 l4 m hag23
set_option maxRecDepth 100000 in
set_option maxHeartbeats 4000000 in
theorem gL_law__j1695 (hfl : l.flags = flags0) (again23 : (Int32 × pmM) → pmR) (l0 : Nat) (l1 : Nat) (l2 : Nat) (l3 : Nat) (l4 : Int32) (m : pmM) (hag23 : ∀ s : Int32 × pmM, pm_G l Γ zL_law_ (d + 50) 23 [.ref l0, .ref l1, .ref l2, .ref l3, .int s.1, pmU, pmU, pmU] [] s.2 (again23 s)) : pm_G l Γ zL_law_ (d + 50) 1695 [.ref l0, .ref l1, .ref l2, .ref l3, .int l4, pmU, pmU, pmU] [] m (L_law__j1695 again23 l0 l1 l2 l3 l4 m) := by
  unfold L_law__j1695
  refine pm_goto (tgt := 2232) dL_law__1695 rfl ?_
  exact gL_law__j2232 hfl again23 l0 l1 l2 l3 l4 m hag23
set_option maxRecDepth 100000 in
set_option maxHeartbeats 4000000 in
theorem gL_law__j1775 (hfl : l.flags = flags0) (again23 : (Int32 × pmM) → pmR) (l0 : Nat) (l1 : Nat) (l2 : Nat) (l3 : Nat) (l4 : Int32) (m : pmM) (hag23 : ∀ s : Int32 × pmM, pm_G l Γ zL_law_ (d + 50) 23 [.ref l0, .ref l1, .ref l2, .ref l3, .int s.1, pmU, pmU, pmU] [] s.2 (again23 s)) : pm_G l Γ zL_law_ (d + 50) 1775 [.ref l0, .ref l1, .ref l2, .ref l3, .int l4, pmU, pmU, pmU] [] m (L_law__j1775 again23 l0 l1 l2 l3 l4 m) := by
  unfold L_law__j1775
  refine pm_goto (tgt := 2232) dL_law__1775 rfl ?_
  exact gL_law__j2232 hfl again23 l0 l1 l2 l3 l4 m hag23
set_option maxRecDepth 100000 in
set_option maxHeartbeats 4000000 in
theorem gL_law__j1831 (hfl : l.flags = flags0) (again23 : (Int32 × pmM) → pmR) (l0 : Nat) (l1 : Nat) (l2 : Nat) (l3 : Nat) (l4 : Int32) (m : pmM) (hag23 : ∀ s : Int32 × pmM, pm_G l Γ zL_law_ (d + 50) 23 [.ref l0, .ref l1, .ref l2, .ref l3, .int s.1, pmU, pmU, pmU] [] s.2 (again23 s)) : pm_G l Γ zL_law_ (d + 50) 1831 [.ref l0, .ref l1, .ref l2, .ref l3, .int l4, pmU, pmU, pmU] [] m (L_law__j1831 again23 l0 l1 l2 l3 l4 m) := by
  unfold L_law__j1831
  refine pm_goto (tgt := 2232) dL_law__1831 rfl ?_
  exact gL_law__j2232 hfl again23 l0 l1 l2 l3 l4 m hag23
set_option maxRecDepth 100000 in
set_option maxHeartbeats 4000000 in
theorem gL_law__j1887 (hfl : l.flags = flags0) (again23 : (Int32 × pmM) → pmR) (l0 : Nat) (l1 : Nat) (l2 : Nat) (l3 : Nat) (l4 : Int32) (m : pmM) (hag23 : ∀ s : Int32 × pmM, pm_G l Γ zL_law_ (d + 50) 23 [.ref l0, .ref l1, .ref l2, .ref l3, .int s.1, pmU, pmU, pmU] [] s.2 (again23 s)) : pm_G l Γ zL_law_ (d + 50) 1887 [.ref l0, .ref l1, .ref l2, .ref l3, .int l4, pmU, pmU, pmU] [] m (L_law__j1887 again23 l0 l1 l2 l3 l4 m) := by
  unfold L_law__j1887
  refine pm_goto (tgt := 2232) dL_law__1887 rfl ?_
  exact gL_law__j2232 hfl again23 l0 l1 l2 l3 l4 m hag23
set_option maxRecDepth 100000 in
set_option maxHeartbeats 4000000 in
theorem gL_law__j1943 (hfl : l.flags = flags0) (again23 : (Int32 × pmM) → pmR) (l0 : Nat) (l1 : Nat) (l2 : Nat) (l3 : Nat) (l4 : Int32) (m : pmM) (hag23 : ∀ s : Int32 × pmM, pm_G l Γ zL_law_ (d + 50) 23 [.ref l0, .ref l1, .ref l2, .ref l3, .int s.1, pmU, pmU, pmU] [] s.2 (again23 s)) : pm_G l Γ zL_law_ (d + 50) 1943 [.ref l0, .ref l1, .ref l2, .ref l3, .int l4, pmU, pmU, pmU] [] m (L_law__j1943 again23 l0 l1 l2 l3 l4 m) := by
  unfold L_law__j1943
  refine pm_goto (tgt := 2232) dL_law__1943 rfl ?_
  exact gL_law__j2232 hfl again23 l0 l1 l2 l3 l4 m hag23
set_option maxRecDepth 100000 in
set_option maxHeartbeats 4000000 in
theorem gL_law__j2035 (hfl : l.flags = flags0) (again23 : (Int32 × pmM) → pmR) (l0 : Nat) (l1 : Nat) (l2 : Nat) (l3 : Nat) (l4 : Int32) (m : pmM) (hag23 : ∀ s : Int32 × pmM, pm_G l Γ zL_law_ (d + 50) 23 [.ref l0, .ref l1, .ref l2, .ref l3, .int s.1, pmU, pmU, pmU] [] s.2 (again23 s)) : pm_G l Γ zL_law_ (d + 50) 2035 [.ref l0, .ref l1, .ref l2, .ref l3, .int l4, pmU, pmU, pmU] [] m (L_law__j2035 again23 l0 l1 l2 l3 l4 m) := by
  unfold L_law__j2035
  refine pm_goto (tgt := 2232) dL_law__2035 rfl ?_
  exact gL_law__j2232 hfl again23 l0 l1 l2 l3 l4 m hag23
set_option maxRecDepth 100000 in
set_option maxHeartbeats 4000000 in
theorem gL_law__j2153 (hfl : l.flags = flags0) (again23 : (Int32 × pmM) → pmR) (l0 : Nat) (l1 : Nat) (l2 : Nat) (l3 : Nat) (l4 : Int32) (m : pmM) (hag23 : ∀ s : Int32 × pmM, pm_G l Γ zL_law_ (d + 50) 23 [.ref l0, .ref l1, .ref l2, .ref l3, .int s.1, pmU, pmU, pmU] [] s.2 (again23 s)) : pm_G l Γ zL_law_ (d + 50) 2153 [.ref l0, .ref l1, .ref l2, .ref l3, .int l4, pmU, pmU, pmU] [] m (L_law__j2153 again23 l0 l1 l2 l3 l4 m) := by
  unfold L_law__j2153
  refine pm_goto (tgt := 2232) dL_law__2153 rfl ?_
  exact gL_law__j2232 hfl again23 l0 l1 l2 l3 l4 m hag23
set_option maxRecDepth 100000 in
set_option maxHeartbeats 4000000 in
theorem gL_law__L23 (hfl : l.flags = flags0) (l0 : Nat) (l1 : Nat) (l2 : Nat) (l3 : Nat) : ∀ (n : Nat) (s : Int32 × pmM), pm_G l Γ zL_law_ (d + 50) 23 [.ref l0, .ref l1, .ref l2, .ref l3, .int s.1, pmU, pmU, pmU] [] s.2 (pm_lp n (L_law__L23 l0 l1 l2 l3) s) :=
  pm_loop (lsf := fun s : Int32 × pmM => [.ref l0, .ref l1, .ref l2, .ref l3, .int s.1, pmU, pmU, pmU]) (mf := fun s : Int32 × pmM => s.2) (fun again23 hag23 s23 => by
    unfold L_law__L23
    refine pm_iload dL_law__23 rfl ?_
    refine pm_aload_n dL_law__25 rfl rfl ?_
    refine pm_alen (y := zL_law_) (kd := 100) (by decide) (by decide) dL_law__26 (fun x9 => ?_)
    refine pm_bipush (v := 8) dL_law__27 kb_8 ?_
    refine pm_isub dL_law__29 ?_
    refine pm_icmp_gt (tgt := 2238) dL_law__30 rfl ?_ ?_
    · refine pm_iconst (v := 1) dL_law__2238 ki_1 ?_
      exact pm_nret (ty := .boolean) (w := 1) rfl (by decide) (by decide) dL_law__2239
    · refine pm_aload_n dL_law__33 rfl rfl ?_
      refine pm_iload dL_law__34 rfl ?_
      refine pm_iald (y := zL_law_) dL_law__36 (fun x10 => ?_)
      refine pm_bipush (v := 63) dL_law__37 kb_63 ?_
      refine pm_iand dL_law__39 ?_
      refine pm_bIn (fun x11 => ?_)
      refine pm_case (c := (0 : Int32)) (fun h9 => ?_) (fun h9_0 => ?_)
      · refine pm_swIn (off := (172)) (tgt := 212) dL_law__40 (by rw [h9]; decide) (by rw [h9]; decide) (by rw [h9]; decide) (by decide) ?_
        refine pm_aload_n dL_law__212 rfl rfl ?_
        refine pm_aload_n dL_law__213 rfl rfl ?_
        refine pm_iload dL_law__214 rfl ?_
        refine pm_iconst (v := 1) dL_law__216 ki_1 ?_
        refine pm_iadd dL_law__217 ?_
        refine pm_iald (y := zL_law_) dL_law__218 (fun x12 => ?_)
        refine pm_aload_n dL_law__219 rfl rfl ?_
        refine pm_iload dL_law__220 rfl ?_
        refine pm_iconst (v := 2) dL_law__222 ki_2 ?_
        refine pm_iadd dL_law__223 ?_
        refine pm_iald (y := zL_law_) dL_law__224 (fun x13 => ?_)
        refine pm_aload_n dL_law__225 rfl rfl ?_
        refine pm_iload dL_law__226 rfl ?_
        refine pm_iconst (v := 3) dL_law__228 ki_3 ?_
        refine pm_iadd dL_law__229 ?_
        refine pm_iald (y := zL_law_) dL_law__230 (fun x14 => ?_)
        refine pm_aload_n dL_law__231 rfl rfl ?_
        refine pm_iload dL_law__232 rfl ?_
        refine pm_iconst (v := 4) dL_law__234 ki_4 ?_
        refine pm_iadd dL_law__235 ?_
        refine pm_iald (y := zL_law_) dL_law__236 (fun x15 => ?_)
        refine pm_aload_n dL_law__237 rfl rfl ?_
        refine pm_iload dL_law__238 rfl ?_
        refine pm_iconst (v := 5) dL_law__240 ki_5 ?_
        refine pm_iadd dL_law__241 ?_
        refine pm_iald (y := zL_law_) dL_law__242 (fun x16 => ?_)
        refine pm_rcv (fun hb9 hc9 => ?_)
        refine pm_kI (d := d + 49) rfl (pm_V (y := zL_law_) (z := zX8_feed) (As := [.int x12, .int x13, .int x14, .int x15, .int x16]) zkX8_feed pm_q8 (by decide) tw_485 tw_486 tw_487 dL_law__243 rfl rfl (Nat.le_of_ble_eq_true rfl) hb9 hc9) (kcX8_feed (d := d + 48) hfl l1 x12 x13 x14 x15 x16 s23.2) (fun x18 m17 => ?_)
        refine pm_aload_n dL_law__246 rfl rfl ?_
        refine pm_aload_n dL_law__247 rfl rfl ?_
        refine pm_iload dL_law__248 rfl ?_
        refine pm_iconst (v := 1) dL_law__250 ki_1 ?_
        refine pm_iadd dL_law__251 ?_
        refine pm_iald (y := zL_law_) dL_law__252 (fun x19 => ?_)
        refine pm_aload_n dL_law__253 rfl rfl ?_
        refine pm_iload dL_law__254 rfl ?_
        refine pm_iconst (v := 2) dL_law__256 ki_2 ?_
        refine pm_iadd dL_law__257 ?_
        refine pm_iald (y := zL_law_) dL_law__258 (fun x20 => ?_)
        refine pm_aload_n dL_law__259 rfl rfl ?_
        refine pm_iload dL_law__260 rfl ?_
        refine pm_iconst (v := 3) dL_law__262 ki_3 ?_
        refine pm_iadd dL_law__263 ?_
        refine pm_iald (y := zL_law_) dL_law__264 (fun x21 => ?_)
        refine pm_aload_n dL_law__265 rfl rfl ?_
        refine pm_iload dL_law__266 rfl ?_
        refine pm_iconst (v := 4) dL_law__268 ki_4 ?_
        refine pm_iadd dL_law__269 ?_
        refine pm_iald (y := zL_law_) dL_law__270 (fun x22 => ?_)
        refine pm_aload_n dL_law__271 rfl rfl ?_
        refine pm_iload dL_law__272 rfl ?_
        refine pm_iconst (v := 5) dL_law__274 ki_5 ?_
        refine pm_iadd dL_law__275 ?_
        refine pm_iald (y := zL_law_) dL_law__276 (fun x23 => ?_)
        refine pm_rcv (fun hb9 hc9 => ?_)
        refine pm_kI (d := d + 49) rfl (pm_V (y := zL_law_) (z := zX9_feed) (As := [.int x19, .int x20, .int x21, .int x22, .int x23]) zkX9_feed pm_q9 (by decide) tw_1537 tw_1538 tw_1539 dL_law__277 rfl rfl (Nat.le_of_ble_eq_true rfl) hb9 hc9) (kcX9_feed (d := d + 49) hfl l2 x19 x20 x21 x22 x23 m17) (fun x25 m24 => ?_)
        refine pm_icmp_eq (tgt := 2232) dL_law__280 rfl ?_ ?_
        · exact gL_law__j2232 hfl again23 l0 l1 l2 l3 s23.1 m24 hag23
        · refine pm_iconst (v := 0) dL_law__283 ki_0 ?_
          exact pm_nret (ty := .boolean) (w := 0) rfl (by decide) (by decide) dL_law__284
      refine pm_case (c := (1 : Int32)) (fun h9 => ?_) (fun h9_1 => ?_)
      · refine pm_swIn (off := (245)) (tgt := 285) dL_law__40 (by rw [h9]; decide) (by rw [h9]; decide) (by rw [h9]; decide) (by decide) ?_
        refine pm_aload_n dL_law__285 rfl rfl ?_
        refine pm_aload_n dL_law__286 rfl rfl ?_
        refine pm_iload dL_law__287 rfl ?_
        refine pm_iconst (v := 1) dL_law__289 ki_1 ?_
        refine pm_iadd dL_law__290 ?_
        refine pm_iald (y := zL_law_) dL_law__291 (fun x27 => ?_)
        refine pm_aload_n dL_law__292 rfl rfl ?_
        refine pm_kI (d := d + 49) rfl (pm_SX (y := zL_law_) (z := zL_page) (As := [.ref l1, .int x27, .ref l3]) zkL_page tw_672 tw_673 dL_law__293 rfl rfl (Nat.le_of_ble_eq_true rfl)) (kcL_page (d := d + 40) hfl l1 x27 l3 s23.2) (fun x29 m28 => ?_)
        refine pm_istore (ls2 := [.ref l0, .ref l1, .ref l2, .ref l3, .int s23.1, .int x29, pmU, pmU]) dL_law__296 rfl (Nat.le_of_ble_eq_true rfl) rfl ?_
        refine pm_aload_n dL_law__298 rfl rfl ?_
        refine pm_aload_n dL_law__299 rfl rfl ?_
        refine pm_iload dL_law__300 rfl ?_
        refine pm_iconst (v := 1) dL_law__302 ki_1 ?_
        refine pm_iadd dL_law__303 ?_
        refine pm_iald (y := zL_law_) dL_law__304 (fun x30 => ?_)
        refine pm_rcv (fun hb9 hc9 => ?_)
        refine pm_kI (d := d + 49) rfl (pm_V (y := zL_law_) (z := zX9_page) (As := [.int x30]) zkX9_page pm_q9 (by decide) tw_1541 tw_1542 tw_1543 dL_law__305 rfl rfl (Nat.le_of_ble_eq_true rfl) hb9 hc9) (kcX9_page (d := d + 43) hfl l2 x30 m28) (fun x32 m31 => ?_)
        refine pm_istore (ls2 := [.ref l0, .ref l1, .ref l2, .ref l3, .int s23.1, .int x29, .int x32, pmU]) dL_law__308 rfl (Nat.le_of_ble_eq_true rfl) rfl ?_
        refine pm_aload_n dL_law__310 rfl rfl ?_
        refine pm_rcv (fun hb9 hc9 => ?_)
        refine pm_kI (d := d + 49) rfl (pm_V (y := zL_law_) (z := zX9_thrown) (As := []) zkX9_thrown pm_q9 (by decide) tw_1533 tw_1534 tw_1535 dL_law__311 rfl rfl (Nat.le_of_ble_eq_true rfl) hb9 hc9) (kcX9_thrown (d := d + 49) hfl l2 m31) (fun x34 m33 => ?_)
        refine pm_iload dL_law__314 rfl ?_
        refine pm_icmp_eq (tgt := 321) dL_law__316 rfl ?_ ?_
        · refine pm_iload dL_law__321 rfl ?_
          refine pm_if_ne (tgt := 338) dL_law__323 rfl ?_ ?_
          · refine pm_drop (ls2 := [.ref l0, .ref l1, .ref l2, .ref l3, .int s23.1, pmU, pmU, pmU]) (Nat.le_refl _) (pm_le_spec (pm_le_v (pm_le_v (pm_le_v (pm_le_v (pm_le_v (pm_le_u (pm_le_u (pm_le_u (pm_le_n)))))))))) ?_
            exact gL_law__j338 hfl again23 l0 l1 l2 l3 s23.1 m33 hag23
          · refine pm_aload_n dL_law__326 rfl rfl ?_
            refine pm_iconst (v := 0) dL_law__327 ki_0 ?_
            refine pm_lald (y := zL_law_) dL_law__328 (fun x35 => ?_)
            refine pm_iload dL_law__329 rfl ?_
            refine pm_i2l dL_law__331 ?_
            refine pm_lcmp dL_law__332 ?_
            refine pm_if_eq (tgt := 338) dL_law__333 rfl ?_ ?_
            · refine pm_drop (ls2 := [.ref l0, .ref l1, .ref l2, .ref l3, .int s23.1, pmU, pmU, pmU]) (Nat.le_refl _) (pm_le_spec (pm_le_v (pm_le_v (pm_le_v (pm_le_v (pm_le_v (pm_le_u (pm_le_u (pm_le_u (pm_le_n)))))))))) ?_
              exact gL_law__j338 hfl again23 l0 l1 l2 l3 s23.1 m33 hag23
            · refine pm_iconst (v := 0) dL_law__336 ki_0 ?_
              exact pm_nret (ty := .boolean) (w := 0) rfl (by decide) (by decide) dL_law__337
        · refine pm_iconst (v := 0) dL_law__319 ki_0 ?_
          exact pm_nret (ty := .boolean) (w := 0) rfl (by decide) (by decide) dL_law__320
      refine pm_case (c := (2 : Int32)) (fun h9 => ?_) (fun h9_2 => ?_)
      · refine pm_swIn (off := (301)) (tgt := 341) dL_law__40 (by rw [h9]; decide) (by rw [h9]; decide) (by rw [h9]; decide) (by decide) ?_
        refine pm_aload_n dL_law__341 rfl rfl ?_
        refine pm_aload_n dL_law__342 rfl rfl ?_
        refine pm_iload dL_law__343 rfl ?_
        refine pm_iconst (v := 1) dL_law__345 ki_1 ?_
        refine pm_iadd dL_law__346 ?_
        refine pm_iald (y := zL_law_) dL_law__347 (fun x36 => ?_)
        refine pm_aload_n dL_law__348 rfl rfl ?_
        refine pm_kI (d := d + 49) rfl (pm_SX (y := zL_law_) (z := zL_law) (As := [.ref l1, .int x36, .ref l3]) zkL_law tw_880 tw_881 dL_law__349 rfl rfl (Nat.le_of_ble_eq_true rfl)) (kcL_law (d := d + 0) hfl l1 x36 l3 s23.2) (fun x38 m37 => ?_)
        refine pm_istore (ls2 := [.ref l0, .ref l1, .ref l2, .ref l3, .int s23.1, .int x38, pmU, pmU]) dL_law__352 rfl (Nat.le_of_ble_eq_true rfl) rfl ?_
        refine pm_aload_n dL_law__354 rfl rfl ?_
        refine pm_aload_n dL_law__355 rfl rfl ?_
        refine pm_iload dL_law__356 rfl ?_
        refine pm_iconst (v := 1) dL_law__358 ki_1 ?_
        refine pm_iadd dL_law__359 ?_
        refine pm_iald (y := zL_law_) dL_law__360 (fun x39 => ?_)
        refine pm_rcv (fun hb9 hc9 => ?_)
        refine pm_kI (d := d + 49) rfl (pm_V (y := zL_law_) (z := zX9_law) (As := [.int x39]) zkX9_law pm_q9 (by decide) tw_1622 tw_1623 tw_1624 dL_law__361 rfl rfl (Nat.le_of_ble_eq_true rfl) hb9 hc9) (kcX9_law (d := d + 13) hfl l2 x39 m37) (fun x41 m40 => ?_)
        refine pm_istore (ls2 := [.ref l0, .ref l1, .ref l2, .ref l3, .int s23.1, .int x38, .int x41, pmU]) dL_law__364 rfl (Nat.le_of_ble_eq_true rfl) rfl ?_
        refine pm_aload_n dL_law__366 rfl rfl ?_
        refine pm_rcv (fun hb9 hc9 => ?_)
        refine pm_kI (d := d + 49) rfl (pm_V (y := zL_law_) (z := zX9_thrown) (As := []) zkX9_thrown pm_q9 (by decide) tw_1533 tw_1534 tw_1535 dL_law__367 rfl rfl (Nat.le_of_ble_eq_true rfl) hb9 hc9) (kcX9_thrown (d := d + 49) hfl l2 m40) (fun x43 m42 => ?_)
        refine pm_iload dL_law__370 rfl ?_
        refine pm_icmp_eq (tgt := 377) dL_law__372 rfl ?_ ?_
        · refine pm_iload dL_law__377 rfl ?_
          refine pm_if_ne (tgt := 394) dL_law__379 rfl ?_ ?_
          · refine pm_drop (ls2 := [.ref l0, .ref l1, .ref l2, .ref l3, .int s23.1, pmU, pmU, pmU]) (Nat.le_refl _) (pm_le_spec (pm_le_v (pm_le_v (pm_le_v (pm_le_v (pm_le_v (pm_le_u (pm_le_u (pm_le_u (pm_le_n)))))))))) ?_
            exact gL_law__j394 hfl again23 l0 l1 l2 l3 s23.1 m42 hag23
          · refine pm_aload_n dL_law__382 rfl rfl ?_
            refine pm_iconst (v := 0) dL_law__383 ki_0 ?_
            refine pm_lald (y := zL_law_) dL_law__384 (fun x44 => ?_)
            refine pm_iload dL_law__385 rfl ?_
            refine pm_i2l dL_law__387 ?_
            refine pm_lcmp dL_law__388 ?_
            refine pm_if_eq (tgt := 394) dL_law__389 rfl ?_ ?_
            · refine pm_drop (ls2 := [.ref l0, .ref l1, .ref l2, .ref l3, .int s23.1, pmU, pmU, pmU]) (Nat.le_refl _) (pm_le_spec (pm_le_v (pm_le_v (pm_le_v (pm_le_v (pm_le_v (pm_le_u (pm_le_u (pm_le_u (pm_le_n)))))))))) ?_
              exact gL_law__j394 hfl again23 l0 l1 l2 l3 s23.1 m42 hag23
            · refine pm_iconst (v := 0) dL_law__392 ki_0 ?_
              exact pm_nret (ty := .boolean) (w := 0) rfl (by decide) (by decide) dL_law__393
        · refine pm_iconst (v := 0) dL_law__375 ki_0 ?_
          exact pm_nret (ty := .boolean) (w := 0) rfl (by decide) (by decide) dL_law__376
      refine pm_case (c := (3 : Int32)) (fun h9 => ?_) (fun h9_3 => ?_)
      · refine pm_swIn (off := (357)) (tgt := 397) dL_law__40 (by rw [h9]; decide) (by rw [h9]; decide) (by rw [h9]; decide) (by decide) ?_
        refine pm_aload_n dL_law__397 rfl rfl ?_
        refine pm_aload_n dL_law__398 rfl rfl ?_
        refine pm_iload dL_law__399 rfl ?_
        refine pm_iconst (v := 1) dL_law__401 ki_1 ?_
        refine pm_iadd dL_law__402 ?_
        refine pm_iald (y := zL_law_) dL_law__403 (fun x45 => ?_)
        refine pm_aload_n dL_law__404 rfl rfl ?_
        refine pm_kI (d := d + 49) rfl (pm_SX (y := zL_law_) (z := zL_work) (As := [.ref l1, .int x45, .ref l3]) zkL_work tw_934 tw_935 dL_law__405 rfl rfl (Nat.le_of_ble_eq_true rfl)) (kcL_work (d := d + 10) hfl l1 x45 l3 s23.2) (fun x47 m46 => ?_)
        refine pm_istore (ls2 := [.ref l0, .ref l1, .ref l2, .ref l3, .int s23.1, .int x47, pmU, pmU]) dL_law__408 rfl (Nat.le_of_ble_eq_true rfl) rfl ?_
        refine pm_aload_n dL_law__410 rfl rfl ?_
        refine pm_aload_n dL_law__411 rfl rfl ?_
        refine pm_iload dL_law__412 rfl ?_
        refine pm_iconst (v := 1) dL_law__414 ki_1 ?_
        refine pm_iadd dL_law__415 ?_
        refine pm_iald (y := zL_law_) dL_law__416 (fun x48 => ?_)
        refine pm_rcv (fun hb9 hc9 => ?_)
        refine pm_kI (d := d + 49) rfl (pm_V (y := zL_law_) (z := zX9_work) (As := [.int x48]) zkX9_work pm_q9 (by decide) tw_1666 tw_1667 tw_1668 dL_law__417 rfl rfl (Nat.le_of_ble_eq_true rfl) hb9 hc9) (kcX9_work (d := d + 32) hfl l2 x48 m46) (fun x50 m49 => ?_)
        refine pm_istore (ls2 := [.ref l0, .ref l1, .ref l2, .ref l3, .int s23.1, .int x47, .int x50, pmU]) dL_law__420 rfl (Nat.le_of_ble_eq_true rfl) rfl ?_
        refine pm_aload_n dL_law__422 rfl rfl ?_
        refine pm_rcv (fun hb9 hc9 => ?_)
        refine pm_kI (d := d + 49) rfl (pm_V (y := zL_law_) (z := zX9_thrown) (As := []) zkX9_thrown pm_q9 (by decide) tw_1533 tw_1534 tw_1535 dL_law__423 rfl rfl (Nat.le_of_ble_eq_true rfl) hb9 hc9) (kcX9_thrown (d := d + 49) hfl l2 m49) (fun x52 m51 => ?_)
        refine pm_iload dL_law__426 rfl ?_
        refine pm_icmp_eq (tgt := 433) dL_law__428 rfl ?_ ?_
        · refine pm_iload dL_law__433 rfl ?_
          refine pm_if_ne (tgt := 450) dL_law__435 rfl ?_ ?_
          · refine pm_drop (ls2 := [.ref l0, .ref l1, .ref l2, .ref l3, .int s23.1, pmU, pmU, pmU]) (Nat.le_refl _) (pm_le_spec (pm_le_v (pm_le_v (pm_le_v (pm_le_v (pm_le_v (pm_le_u (pm_le_u (pm_le_u (pm_le_n)))))))))) ?_
            exact gL_law__j450 hfl again23 l0 l1 l2 l3 s23.1 m51 hag23
          · refine pm_aload_n dL_law__438 rfl rfl ?_
            refine pm_iconst (v := 0) dL_law__439 ki_0 ?_
            refine pm_lald (y := zL_law_) dL_law__440 (fun x53 => ?_)
            refine pm_iload dL_law__441 rfl ?_
            refine pm_i2l dL_law__443 ?_
            refine pm_lcmp dL_law__444 ?_
            refine pm_if_eq (tgt := 450) dL_law__445 rfl ?_ ?_
            · refine pm_drop (ls2 := [.ref l0, .ref l1, .ref l2, .ref l3, .int s23.1, pmU, pmU, pmU]) (Nat.le_refl _) (pm_le_spec (pm_le_v (pm_le_v (pm_le_v (pm_le_v (pm_le_v (pm_le_u (pm_le_u (pm_le_u (pm_le_n)))))))))) ?_
              exact gL_law__j450 hfl again23 l0 l1 l2 l3 s23.1 m51 hag23
            · refine pm_iconst (v := 0) dL_law__448 ki_0 ?_
              exact pm_nret (ty := .boolean) (w := 0) rfl (by decide) (by decide) dL_law__449
        · refine pm_iconst (v := 0) dL_law__431 ki_0 ?_
          exact pm_nret (ty := .boolean) (w := 0) rfl (by decide) (by decide) dL_law__432
      refine pm_case (c := (4 : Int32)) (fun h9 => ?_) (fun h9_4 => ?_)
      · refine pm_swIn (off := (413)) (tgt := 453) dL_law__40 (by rw [h9]; decide) (by rw [h9]; decide) (by rw [h9]; decide) (by decide) ?_
        refine pm_aload_n dL_law__453 rfl rfl ?_
        refine pm_aload_n dL_law__454 rfl rfl ?_
        refine pm_iload dL_law__455 rfl ?_
        refine pm_iconst (v := 1) dL_law__457 ki_1 ?_
        refine pm_iadd dL_law__458 ?_
        refine pm_iald (y := zL_law_) dL_law__459 (fun x54 => ?_)
        refine pm_aload_n dL_law__460 rfl rfl ?_
        refine pm_kI (d := d + 49) rfl (pm_SX (y := zL_law_) (z := zL_sentence) (As := [.ref l1, .int x54, .ref l3]) zkL_sentence tw_1048 tw_1049 dL_law__461 rfl rfl (Nat.le_of_ble_eq_true rfl)) (kcL_sentence (d := d + 45) hfl l1 x54 l3 s23.2) (fun x56 m55 => ?_)
        refine pm_istore (ls2 := [.ref l0, .ref l1, .ref l2, .ref l3, .int s23.1, .int x56, pmU, pmU]) dL_law__464 rfl (Nat.le_of_ble_eq_true rfl) rfl ?_
        refine pm_aload_n dL_law__466 rfl rfl ?_
        refine pm_aload_n dL_law__467 rfl rfl ?_
        refine pm_iload dL_law__468 rfl ?_
        refine pm_iconst (v := 1) dL_law__470 ki_1 ?_
        refine pm_iadd dL_law__471 ?_
        refine pm_iald (y := zL_law_) dL_law__472 (fun x57 => ?_)
        refine pm_rcv (fun hb9 hc9 => ?_)
        refine pm_kI (d := d + 49) rfl (pm_V (y := zL_law_) (z := zX9_sentence) (As := [.int x57]) zkX9_sentence pm_q9 (by decide) tw_1658 tw_1659 tw_1660 dL_law__473 rfl rfl (Nat.le_of_ble_eq_true rfl) hb9 hc9) (kcX9_sentence (d := d + 45) hfl l2 x57 m55) (fun x59 m58 => ?_)
        refine pm_istore (ls2 := [.ref l0, .ref l1, .ref l2, .ref l3, .int s23.1, .int x56, .int x59, pmU]) dL_law__476 rfl (Nat.le_of_ble_eq_true rfl) rfl ?_
        refine pm_aload_n dL_law__478 rfl rfl ?_
        refine pm_rcv (fun hb9 hc9 => ?_)
        refine pm_kI (d := d + 49) rfl (pm_V (y := zL_law_) (z := zX9_thrown) (As := []) zkX9_thrown pm_q9 (by decide) tw_1533 tw_1534 tw_1535 dL_law__479 rfl rfl (Nat.le_of_ble_eq_true rfl) hb9 hc9) (kcX9_thrown (d := d + 49) hfl l2 m58) (fun x61 m60 => ?_)
        refine pm_iload dL_law__482 rfl ?_
        refine pm_icmp_eq (tgt := 489) dL_law__484 rfl ?_ ?_
        · refine pm_iload dL_law__489 rfl ?_
          refine pm_if_ne (tgt := 506) dL_law__491 rfl ?_ ?_
          · refine pm_drop (ls2 := [.ref l0, .ref l1, .ref l2, .ref l3, .int s23.1, pmU, pmU, pmU]) (Nat.le_refl _) (pm_le_spec (pm_le_v (pm_le_v (pm_le_v (pm_le_v (pm_le_v (pm_le_u (pm_le_u (pm_le_u (pm_le_n)))))))))) ?_
            exact gL_law__j506 hfl again23 l0 l1 l2 l3 s23.1 m60 hag23
          · refine pm_aload_n dL_law__494 rfl rfl ?_
            refine pm_iconst (v := 0) dL_law__495 ki_0 ?_
            refine pm_lald (y := zL_law_) dL_law__496 (fun x62 => ?_)
            refine pm_iload dL_law__497 rfl ?_
            refine pm_i2l dL_law__499 ?_
            refine pm_lcmp dL_law__500 ?_
            refine pm_if_eq (tgt := 506) dL_law__501 rfl ?_ ?_
            · refine pm_drop (ls2 := [.ref l0, .ref l1, .ref l2, .ref l3, .int s23.1, pmU, pmU, pmU]) (Nat.le_refl _) (pm_le_spec (pm_le_v (pm_le_v (pm_le_v (pm_le_v (pm_le_v (pm_le_u (pm_le_u (pm_le_u (pm_le_n)))))))))) ?_
              exact gL_law__j506 hfl again23 l0 l1 l2 l3 s23.1 m60 hag23
            · refine pm_iconst (v := 0) dL_law__504 ki_0 ?_
              exact pm_nret (ty := .boolean) (w := 0) rfl (by decide) (by decide) dL_law__505
        · refine pm_iconst (v := 0) dL_law__487 ki_0 ?_
          exact pm_nret (ty := .boolean) (w := 0) rfl (by decide) (by decide) dL_law__488
      refine pm_case (c := (5 : Int32)) (fun h9 => ?_) (fun h9_5 => ?_)
      · refine pm_swIn (off := (469)) (tgt := 509) dL_law__40 (by rw [h9]; decide) (by rw [h9]; decide) (by rw [h9]; decide) (by decide) ?_
        refine pm_aload_n dL_law__509 rfl rfl ?_
        refine pm_rcv (fun hb9 hc9 => ?_)
        refine pm_kI (d := d + 49) rfl (pm_V (y := zL_law_) (z := zX8_fault) (As := []) zkX8_fault pm_q8 (by decide) tw_493 tw_494 tw_495 dL_law__510 rfl rfl (Nat.le_of_ble_eq_true rfl) hb9 hc9) (kcX8_fault (d := d + 49) hfl l1 s23.2) (fun x64 m63 => ?_)
        refine pm_aload_n dL_law__513 rfl rfl ?_
        refine pm_rcv (fun hb9 hc9 => ?_)
        refine pm_kI (d := d + 49) rfl (pm_V (y := zL_law_) (z := zX9_fault) (As := []) zkX9_fault pm_q9 (by decide) tw_1662 tw_1663 tw_1664 dL_law__514 rfl rfl (Nat.le_of_ble_eq_true rfl) hb9 hc9) (kcX9_fault (d := d + 49) hfl l2 m63) (fun x66 m65 => ?_)
        refine pm_icmp_eq (tgt := 2232) dL_law__517 rfl ?_ ?_
        · exact gL_law__j2232 hfl again23 l0 l1 l2 l3 s23.1 m65 hag23
        · refine pm_iconst (v := 0) dL_law__520 ki_0 ?_
          exact pm_nret (ty := .boolean) (w := 0) rfl (by decide) (by decide) dL_law__521
      refine pm_case (c := (6 : Int32)) (fun h9 => ?_) (fun h9_6 => ?_)
      · refine pm_swIn (off := (482)) (tgt := 522) dL_law__40 (by rw [h9]; decide) (by rw [h9]; decide) (by rw [h9]; decide) (by decide) ?_
        refine pm_aload_n dL_law__522 rfl rfl ?_
        refine pm_rcv (fun hb9 hc9 => ?_)
        refine pm_kI (d := d + 49) rfl (pm_V (y := zL_law_) (z := zX8_undo) (As := []) zkX8_undo pm_q8 (by decide) tw_497 tw_498 tw_499 dL_law__523 rfl rfl (Nat.le_of_ble_eq_true rfl) hb9 hc9) (kcX8_undo (d := d + 47) hfl l1 s23.2) (fun x68 m67 => ?_)
        refine pm_aload_n dL_law__526 rfl rfl ?_
        refine pm_rcv (fun hb9 hc9 => ?_)
        refine pm_kI (d := d + 49) rfl (pm_V (y := zL_law_) (z := zX9_undo) (As := []) zkX9_undo pm_q9 (by decide) tw_1766 tw_1767 tw_1768 dL_law__527 rfl rfl (Nat.le_of_ble_eq_true rfl) hb9 hc9) (kcX9_undo (d := d + 48) hfl l2 m67) (fun x70 m69 => ?_)
        refine pm_icmp_eq (tgt := 2232) dL_law__530 rfl ?_ ?_
        · exact gL_law__j2232 hfl again23 l0 l1 l2 l3 s23.1 m69 hag23
        · refine pm_iconst (v := 0) dL_law__533 ki_0 ?_
          exact pm_nret (ty := .boolean) (w := 0) rfl (by decide) (by decide) dL_law__534
      refine pm_case (c := (7 : Int32)) (fun h9 => ?_) (fun h9_7 => ?_)
      · refine pm_swIn (off := (495)) (tgt := 535) dL_law__40 (by rw [h9]; decide) (by rw [h9]; decide) (by rw [h9]; decide) (by decide) ?_
        refine pm_aload_n dL_law__535 rfl rfl ?_
        refine pm_aload_n dL_law__536 rfl rfl ?_
        refine pm_iload dL_law__537 rfl ?_
        refine pm_iconst (v := 1) dL_law__539 ki_1 ?_
        refine pm_iadd dL_law__540 ?_
        refine pm_iald (y := zL_law_) dL_law__541 (fun x71 => ?_)
        refine pm_aload_n dL_law__542 rfl rfl ?_
        refine pm_kI (d := d + 49) rfl (pm_SX (y := zL_law_) (z := zL_told) (As := [.ref l1, .int x71, .ref l3]) zkL_told tw_1068 tw_1069 dL_law__543 rfl rfl (Nat.le_of_ble_eq_true rfl)) (kcL_told (d := d + 45) hfl l1 x71 l3 s23.2) (fun x73 m72 => ?_)
        refine pm_istore (ls2 := [.ref l0, .ref l1, .ref l2, .ref l3, .int s23.1, .int x73, pmU, pmU]) dL_law__546 rfl (Nat.le_of_ble_eq_true rfl) rfl ?_
        refine pm_aload_n dL_law__548 rfl rfl ?_
        refine pm_aload_n dL_law__549 rfl rfl ?_
        refine pm_iload dL_law__550 rfl ?_
        refine pm_iconst (v := 1) dL_law__552 ki_1 ?_
        refine pm_iadd dL_law__553 ?_
        refine pm_iald (y := zL_law_) dL_law__554 (fun x74 => ?_)
        refine pm_rcv (fun hb9 hc9 => ?_)
        refine pm_kI (d := d + 49) rfl (pm_V (y := zL_law_) (z := zX9_told) (As := [.int x74]) zkX9_told pm_q9 (by decide) tw_1770 tw_1771 tw_1772 dL_law__555 rfl rfl (Nat.le_of_ble_eq_true rfl) hb9 hc9) (kcX9_told (d := d + 46) hfl l2 x74 m72) (fun x76 m75 => ?_)
        refine pm_istore (ls2 := [.ref l0, .ref l1, .ref l2, .ref l3, .int s23.1, .int x73, .int x76, pmU]) dL_law__558 rfl (Nat.le_of_ble_eq_true rfl) rfl ?_
        refine pm_aload_n dL_law__560 rfl rfl ?_
        refine pm_rcv (fun hb9 hc9 => ?_)
        refine pm_kI (d := d + 49) rfl (pm_V (y := zL_law_) (z := zX9_thrown) (As := []) zkX9_thrown pm_q9 (by decide) tw_1533 tw_1534 tw_1535 dL_law__561 rfl rfl (Nat.le_of_ble_eq_true rfl) hb9 hc9) (kcX9_thrown (d := d + 49) hfl l2 m75) (fun x78 m77 => ?_)
        refine pm_iload dL_law__564 rfl ?_
        refine pm_icmp_eq (tgt := 571) dL_law__566 rfl ?_ ?_
        · refine pm_iload dL_law__571 rfl ?_
          refine pm_if_ne (tgt := 588) dL_law__573 rfl ?_ ?_
          · refine pm_drop (ls2 := [.ref l0, .ref l1, .ref l2, .ref l3, .int s23.1, pmU, pmU, pmU]) (Nat.le_refl _) (pm_le_spec (pm_le_v (pm_le_v (pm_le_v (pm_le_v (pm_le_v (pm_le_u (pm_le_u (pm_le_u (pm_le_n)))))))))) ?_
            exact gL_law__j588 hfl again23 l0 l1 l2 l3 s23.1 m77 hag23
          · refine pm_aload_n dL_law__576 rfl rfl ?_
            refine pm_iconst (v := 0) dL_law__577 ki_0 ?_
            refine pm_lald (y := zL_law_) dL_law__578 (fun x79 => ?_)
            refine pm_iload dL_law__579 rfl ?_
            refine pm_i2l dL_law__581 ?_
            refine pm_lcmp dL_law__582 ?_
            refine pm_if_eq (tgt := 588) dL_law__583 rfl ?_ ?_
            · refine pm_drop (ls2 := [.ref l0, .ref l1, .ref l2, .ref l3, .int s23.1, pmU, pmU, pmU]) (Nat.le_refl _) (pm_le_spec (pm_le_v (pm_le_v (pm_le_v (pm_le_v (pm_le_v (pm_le_u (pm_le_u (pm_le_u (pm_le_n)))))))))) ?_
              exact gL_law__j588 hfl again23 l0 l1 l2 l3 s23.1 m77 hag23
            · refine pm_iconst (v := 0) dL_law__586 ki_0 ?_
              exact pm_nret (ty := .boolean) (w := 0) rfl (by decide) (by decide) dL_law__587
        · refine pm_iconst (v := 0) dL_law__569 ki_0 ?_
          exact pm_nret (ty := .boolean) (w := 0) rfl (by decide) (by decide) dL_law__570
      refine pm_case (c := (8 : Int32)) (fun h9 => ?_) (fun h9_8 => ?_)
      · refine pm_swIn (off := (551)) (tgt := 591) dL_law__40 (by rw [h9]; decide) (by rw [h9]; decide) (by rw [h9]; decide) (by decide) ?_
        refine pm_aload_n dL_law__591 rfl rfl ?_
        refine pm_aload_n dL_law__592 rfl rfl ?_
        refine pm_iload dL_law__593 rfl ?_
        refine pm_iconst (v := 1) dL_law__595 ki_1 ?_
        refine pm_iadd dL_law__596 ?_
        refine pm_iald (y := zL_law_) dL_law__597 (fun x80 => ?_)
        refine pm_aload_n dL_law__598 rfl rfl ?_
        refine pm_iload dL_law__599 rfl ?_
        refine pm_iconst (v := 2) dL_law__601 ki_2 ?_
        refine pm_iadd dL_law__602 ?_
        refine pm_iald (y := zL_law_) dL_law__603 (fun x81 => ?_)
        refine pm_aload_n dL_law__604 rfl rfl ?_
        refine pm_kI (d := d + 49) rfl (pm_SX (y := zL_law_) (z := zL_line) (As := [.ref l1, .int x80, .int x81, .ref l3]) zkL_line tw_1088 tw_1089 dL_law__605 rfl rfl (Nat.le_of_ble_eq_true rfl)) (kcL_line (d := d + 45) hfl l1 x80 x81 l3 s23.2) (fun x83 m82 => ?_)
        refine pm_istore (ls2 := [.ref l0, .ref l1, .ref l2, .ref l3, .int s23.1, .int x83, pmU, pmU]) dL_law__608 rfl (Nat.le_of_ble_eq_true rfl) rfl ?_
        refine pm_aload_n dL_law__610 rfl rfl ?_
        refine pm_aload_n dL_law__611 rfl rfl ?_
        refine pm_iload dL_law__612 rfl ?_
        refine pm_iconst (v := 1) dL_law__614 ki_1 ?_
        refine pm_iadd dL_law__615 ?_
        refine pm_iald (y := zL_law_) dL_law__616 (fun x84 => ?_)
        refine pm_aload_n dL_law__617 rfl rfl ?_
        refine pm_iload dL_law__618 rfl ?_
        refine pm_iconst (v := 2) dL_law__620 ki_2 ?_
        refine pm_iadd dL_law__621 ?_
        refine pm_iald (y := zL_law_) dL_law__622 (fun x85 => ?_)
        refine pm_rcv (fun hb9 hc9 => ?_)
        refine pm_kI (d := d + 49) rfl (pm_V (y := zL_law_) (z := zX9_line) (As := [.int x84, .int x85]) zkX9_line pm_q9 (by decide) tw_1777 tw_1778 tw_1779 dL_law__623 rfl rfl (Nat.le_of_ble_eq_true rfl) hb9 hc9) (kcX9_line (d := d + 47) hfl l2 x84 x85 m82) (fun x87 m86 => ?_)
        refine pm_istore (ls2 := [.ref l0, .ref l1, .ref l2, .ref l3, .int s23.1, .int x83, .int x87, pmU]) dL_law__626 rfl (Nat.le_of_ble_eq_true rfl) rfl ?_
        refine pm_aload_n dL_law__628 rfl rfl ?_
        refine pm_rcv (fun hb9 hc9 => ?_)
        refine pm_kI (d := d + 49) rfl (pm_V (y := zL_law_) (z := zX9_thrown) (As := []) zkX9_thrown pm_q9 (by decide) tw_1533 tw_1534 tw_1535 dL_law__629 rfl rfl (Nat.le_of_ble_eq_true rfl) hb9 hc9) (kcX9_thrown (d := d + 49) hfl l2 m86) (fun x89 m88 => ?_)
        refine pm_iload dL_law__632 rfl ?_
        refine pm_icmp_eq (tgt := 639) dL_law__634 rfl ?_ ?_
        · refine pm_iload dL_law__639 rfl ?_
          refine pm_if_ne (tgt := 656) dL_law__641 rfl ?_ ?_
          · refine pm_drop (ls2 := [.ref l0, .ref l1, .ref l2, .ref l3, .int s23.1, pmU, pmU, pmU]) (Nat.le_refl _) (pm_le_spec (pm_le_v (pm_le_v (pm_le_v (pm_le_v (pm_le_v (pm_le_u (pm_le_u (pm_le_u (pm_le_n)))))))))) ?_
            exact gL_law__j656 hfl again23 l0 l1 l2 l3 s23.1 m88 hag23
          · refine pm_aload_n dL_law__644 rfl rfl ?_
            refine pm_iconst (v := 0) dL_law__645 ki_0 ?_
            refine pm_lald (y := zL_law_) dL_law__646 (fun x90 => ?_)
            refine pm_iload dL_law__647 rfl ?_
            refine pm_i2l dL_law__649 ?_
            refine pm_lcmp dL_law__650 ?_
            refine pm_if_eq (tgt := 656) dL_law__651 rfl ?_ ?_
            · refine pm_drop (ls2 := [.ref l0, .ref l1, .ref l2, .ref l3, .int s23.1, pmU, pmU, pmU]) (Nat.le_refl _) (pm_le_spec (pm_le_v (pm_le_v (pm_le_v (pm_le_v (pm_le_v (pm_le_u (pm_le_u (pm_le_u (pm_le_n)))))))))) ?_
              exact gL_law__j656 hfl again23 l0 l1 l2 l3 s23.1 m88 hag23
            · refine pm_iconst (v := 0) dL_law__654 ki_0 ?_
              exact pm_nret (ty := .boolean) (w := 0) rfl (by decide) (by decide) dL_law__655
        · refine pm_iconst (v := 0) dL_law__637 ki_0 ?_
          exact pm_nret (ty := .boolean) (w := 0) rfl (by decide) (by decide) dL_law__638
      refine pm_case (c := (9 : Int32)) (fun h9 => ?_) (fun h9_9 => ?_)
      · refine pm_swIn (off := (619)) (tgt := 659) dL_law__40 (by rw [h9]; decide) (by rw [h9]; decide) (by rw [h9]; decide) (by decide) ?_
        refine pm_aload_n dL_law__659 rfl rfl ?_
        refine pm_aload_n dL_law__660 rfl rfl ?_
        refine pm_iload dL_law__661 rfl ?_
        refine pm_iconst (v := 1) dL_law__663 ki_1 ?_
        refine pm_iadd dL_law__664 ?_
        refine pm_iald (y := zL_law_) dL_law__665 (fun x91 => ?_)
        refine pm_aload_n dL_law__666 rfl rfl ?_
        refine pm_iload dL_law__667 rfl ?_
        refine pm_iconst (v := 2) dL_law__669 ki_2 ?_
        refine pm_iadd dL_law__670 ?_
        refine pm_iald (y := zL_law_) dL_law__671 (fun x92 => ?_)
        refine pm_aload_n dL_law__672 rfl rfl ?_
        refine pm_iload dL_law__673 rfl ?_
        refine pm_iconst (v := 3) dL_law__675 ki_3 ?_
        refine pm_iadd dL_law__676 ?_
        refine pm_iald (y := zL_law_) dL_law__677 (fun x93 => ?_)
        refine pm_aload_n dL_law__678 rfl rfl ?_
        refine pm_kI (d := d + 49) rfl (pm_SX (y := zL_law_) (z := zL_word) (As := [.ref l1, .int x91, .int x92, .int x93, .ref l3]) zkL_word tw_1125 tw_1126 dL_law__679 rfl rfl (Nat.le_of_ble_eq_true rfl)) (kcL_word (d := d + 46) hfl l1 x91 x92 x93 l3 s23.2) (fun x95 m94 => ?_)
        refine pm_istore (ls2 := [.ref l0, .ref l1, .ref l2, .ref l3, .int s23.1, .int x95, pmU, pmU]) dL_law__682 rfl (Nat.le_of_ble_eq_true rfl) rfl ?_
        refine pm_aload_n dL_law__684 rfl rfl ?_
        refine pm_aload_n dL_law__685 rfl rfl ?_
        refine pm_iload dL_law__686 rfl ?_
        refine pm_iconst (v := 1) dL_law__688 ki_1 ?_
        refine pm_iadd dL_law__689 ?_
        refine pm_iald (y := zL_law_) dL_law__690 (fun x96 => ?_)
        refine pm_aload_n dL_law__691 rfl rfl ?_
        refine pm_iload dL_law__692 rfl ?_
        refine pm_iconst (v := 2) dL_law__694 ki_2 ?_
        refine pm_iadd dL_law__695 ?_
        refine pm_iald (y := zL_law_) dL_law__696 (fun x97 => ?_)
        refine pm_aload_n dL_law__697 rfl rfl ?_
        refine pm_iload dL_law__698 rfl ?_
        refine pm_iconst (v := 3) dL_law__700 ki_3 ?_
        refine pm_iadd dL_law__701 ?_
        refine pm_iald (y := zL_law_) dL_law__702 (fun x98 => ?_)
        refine pm_rcv (fun hb9 hc9 => ?_)
        refine pm_kI (d := d + 49) rfl (pm_V (y := zL_law_) (z := zX9_word) (As := [.int x96, .int x97, .int x98]) zkX9_word pm_q9 (by decide) tw_1785 tw_1786 tw_1787 dL_law__703 rfl rfl (Nat.le_of_ble_eq_true rfl) hb9 hc9) (kcX9_word (d := d + 47) hfl l2 x96 x97 x98 m94) (fun x100 m99 => ?_)
        refine pm_istore (ls2 := [.ref l0, .ref l1, .ref l2, .ref l3, .int s23.1, .int x95, .int x100, pmU]) dL_law__706 rfl (Nat.le_of_ble_eq_true rfl) rfl ?_
        refine pm_aload_n dL_law__708 rfl rfl ?_
        refine pm_rcv (fun hb9 hc9 => ?_)
        refine pm_kI (d := d + 49) rfl (pm_V (y := zL_law_) (z := zX9_thrown) (As := []) zkX9_thrown pm_q9 (by decide) tw_1533 tw_1534 tw_1535 dL_law__709 rfl rfl (Nat.le_of_ble_eq_true rfl) hb9 hc9) (kcX9_thrown (d := d + 49) hfl l2 m99) (fun x102 m101 => ?_)
        refine pm_iload dL_law__712 rfl ?_
        refine pm_icmp_eq (tgt := 719) dL_law__714 rfl ?_ ?_
        · refine pm_iload dL_law__719 rfl ?_
          refine pm_if_ne (tgt := 736) dL_law__721 rfl ?_ ?_
          · refine pm_drop (ls2 := [.ref l0, .ref l1, .ref l2, .ref l3, .int s23.1, pmU, pmU, pmU]) (Nat.le_refl _) (pm_le_spec (pm_le_v (pm_le_v (pm_le_v (pm_le_v (pm_le_v (pm_le_u (pm_le_u (pm_le_u (pm_le_n)))))))))) ?_
            exact gL_law__j736 hfl again23 l0 l1 l2 l3 s23.1 m101 hag23
          · refine pm_aload_n dL_law__724 rfl rfl ?_
            refine pm_iconst (v := 0) dL_law__725 ki_0 ?_
            refine pm_lald (y := zL_law_) dL_law__726 (fun x103 => ?_)
            refine pm_iload dL_law__727 rfl ?_
            refine pm_i2l dL_law__729 ?_
            refine pm_lcmp dL_law__730 ?_
            refine pm_if_eq (tgt := 736) dL_law__731 rfl ?_ ?_
            · refine pm_drop (ls2 := [.ref l0, .ref l1, .ref l2, .ref l3, .int s23.1, pmU, pmU, pmU]) (Nat.le_refl _) (pm_le_spec (pm_le_v (pm_le_v (pm_le_v (pm_le_v (pm_le_v (pm_le_u (pm_le_u (pm_le_u (pm_le_n)))))))))) ?_
              exact gL_law__j736 hfl again23 l0 l1 l2 l3 s23.1 m101 hag23
            · refine pm_iconst (v := 0) dL_law__734 ki_0 ?_
              exact pm_nret (ty := .boolean) (w := 0) rfl (by decide) (by decide) dL_law__735
        · refine pm_iconst (v := 0) dL_law__717 ki_0 ?_
          exact pm_nret (ty := .boolean) (w := 0) rfl (by decide) (by decide) dL_law__718
      refine pm_case (c := (10 : Int32)) (fun h9 => ?_) (fun h9_10 => ?_)
      · refine pm_swIn (off := (699)) (tgt := 739) dL_law__40 (by rw [h9]; decide) (by rw [h9]; decide) (by rw [h9]; decide) (by decide) ?_
        refine pm_aload_n dL_law__739 rfl rfl ?_
        refine pm_aload_n dL_law__740 rfl rfl ?_
        refine pm_iload dL_law__741 rfl ?_
        refine pm_iconst (v := 1) dL_law__743 ki_1 ?_
        refine pm_iadd dL_law__744 ?_
        refine pm_iald (y := zL_law_) dL_law__745 (fun x104 => ?_)
        refine pm_aload_n dL_law__746 rfl rfl ?_
        refine pm_kI (d := d + 49) rfl (pm_SX (y := zL_law_) (z := zL_reads) (As := [.ref l1, .int x104, .ref l3]) zkL_reads tw_1140 tw_1141 dL_law__747 rfl rfl (Nat.le_of_ble_eq_true rfl)) (kcL_reads (d := d + 46) hfl l1 x104 l3 s23.2) (fun x106 m105 => ?_)
        refine pm_istore (ls2 := [.ref l0, .ref l1, .ref l2, .ref l3, .int s23.1, .int x106, pmU, pmU]) dL_law__750 rfl (Nat.le_of_ble_eq_true rfl) rfl ?_
        refine pm_aload_n dL_law__752 rfl rfl ?_
        refine pm_aload_n dL_law__753 rfl rfl ?_
        refine pm_iload dL_law__754 rfl ?_
        refine pm_iconst (v := 1) dL_law__756 ki_1 ?_
        refine pm_iadd dL_law__757 ?_
        refine pm_iald (y := zL_law_) dL_law__758 (fun x107 => ?_)
        refine pm_rcv (fun hb9 hc9 => ?_)
        refine pm_kI (d := d + 49) rfl (pm_V (y := zL_law_) (z := zX9_reads) (As := [.int x107]) zkX9_reads pm_q9 (by decide) tw_1789 tw_1790 tw_1791 dL_law__759 rfl rfl (Nat.le_of_ble_eq_true rfl) hb9 hc9) (kcX9_reads (d := d + 47) hfl l2 x107 m105) (fun x109 m108 => ?_)
        refine pm_istore (ls2 := [.ref l0, .ref l1, .ref l2, .ref l3, .int s23.1, .int x106, .int x109, pmU]) dL_law__762 rfl (Nat.le_of_ble_eq_true rfl) rfl ?_
        refine pm_aload_n dL_law__764 rfl rfl ?_
        refine pm_rcv (fun hb9 hc9 => ?_)
        refine pm_kI (d := d + 49) rfl (pm_V (y := zL_law_) (z := zX9_thrown) (As := []) zkX9_thrown pm_q9 (by decide) tw_1533 tw_1534 tw_1535 dL_law__765 rfl rfl (Nat.le_of_ble_eq_true rfl) hb9 hc9) (kcX9_thrown (d := d + 49) hfl l2 m108) (fun x111 m110 => ?_)
        refine pm_iload dL_law__768 rfl ?_
        refine pm_icmp_eq (tgt := 775) dL_law__770 rfl ?_ ?_
        · refine pm_iload dL_law__775 rfl ?_
          refine pm_if_ne (tgt := 792) dL_law__777 rfl ?_ ?_
          · refine pm_drop (ls2 := [.ref l0, .ref l1, .ref l2, .ref l3, .int s23.1, pmU, pmU, pmU]) (Nat.le_refl _) (pm_le_spec (pm_le_v (pm_le_v (pm_le_v (pm_le_v (pm_le_v (pm_le_u (pm_le_u (pm_le_u (pm_le_n)))))))))) ?_
            exact gL_law__j792 hfl again23 l0 l1 l2 l3 s23.1 m110 hag23
          · refine pm_aload_n dL_law__780 rfl rfl ?_
            refine pm_iconst (v := 0) dL_law__781 ki_0 ?_
            refine pm_lald (y := zL_law_) dL_law__782 (fun x112 => ?_)
            refine pm_iload dL_law__783 rfl ?_
            refine pm_i2l dL_law__785 ?_
            refine pm_lcmp dL_law__786 ?_
            refine pm_if_eq (tgt := 792) dL_law__787 rfl ?_ ?_
            · refine pm_drop (ls2 := [.ref l0, .ref l1, .ref l2, .ref l3, .int s23.1, pmU, pmU, pmU]) (Nat.le_refl _) (pm_le_spec (pm_le_v (pm_le_v (pm_le_v (pm_le_v (pm_le_v (pm_le_u (pm_le_u (pm_le_u (pm_le_n)))))))))) ?_
              exact gL_law__j792 hfl again23 l0 l1 l2 l3 s23.1 m110 hag23
            · refine pm_iconst (v := 0) dL_law__790 ki_0 ?_
              exact pm_nret (ty := .boolean) (w := 0) rfl (by decide) (by decide) dL_law__791
        · refine pm_iconst (v := 0) dL_law__773 ki_0 ?_
          exact pm_nret (ty := .boolean) (w := 0) rfl (by decide) (by decide) dL_law__774
      refine pm_case (c := (11 : Int32)) (fun h9 => ?_) (fun h9_11 => ?_)
      · refine pm_swIn (off := (755)) (tgt := 795) dL_law__40 (by rw [h9]; decide) (by rw [h9]; decide) (by rw [h9]; decide) (by decide) ?_
        refine pm_aload_n dL_law__795 rfl rfl ?_
        refine pm_aload_n dL_law__796 rfl rfl ?_
        refine pm_iload dL_law__797 rfl ?_
        refine pm_iconst (v := 1) dL_law__799 ki_1 ?_
        refine pm_iadd dL_law__800 ?_
        refine pm_iald (y := zL_law_) dL_law__801 (fun x113 => ?_)
        refine pm_aload_n dL_law__802 rfl rfl ?_
        refine pm_kI (d := d + 49) rfl (pm_SX (y := zL_law_) (z := zL_cell) (As := [.ref l1, .int x113, .ref l3]) zkL_cell tw_1147 tw_1148 dL_law__803 rfl rfl (Nat.le_of_ble_eq_true rfl)) (kcL_cell (d := d + 47) hfl l1 x113 l3 s23.2) (fun x115 m114 => ?_)
        refine pm_istore (ls2 := [.ref l0, .ref l1, .ref l2, .ref l3, .int s23.1, .int x115, pmU, pmU]) dL_law__806 rfl (Nat.le_of_ble_eq_true rfl) rfl ?_
        refine pm_aload_n dL_law__808 rfl rfl ?_
        refine pm_aload_n dL_law__809 rfl rfl ?_
        refine pm_iload dL_law__810 rfl ?_
        refine pm_iconst (v := 1) dL_law__812 ki_1 ?_
        refine pm_iadd dL_law__813 ?_
        refine pm_iald (y := zL_law_) dL_law__814 (fun x116 => ?_)
        refine pm_rcv (fun hb9 hc9 => ?_)
        refine pm_kI (d := d + 49) rfl (pm_V (y := zL_law_) (z := zX9_cell) (As := [.int x116]) zkX9_cell pm_q9 (by decide) tw_1793 tw_1794 tw_1795 dL_law__815 rfl rfl (Nat.le_of_ble_eq_true rfl) hb9 hc9) (kcX9_cell (d := d + 48) hfl l2 x116 m114) (fun x118 m117 => ?_)
        refine pm_istore (ls2 := [.ref l0, .ref l1, .ref l2, .ref l3, .int s23.1, .int x115, .int x118, pmU]) dL_law__818 rfl (Nat.le_of_ble_eq_true rfl) rfl ?_
        refine pm_aload_n dL_law__820 rfl rfl ?_
        refine pm_rcv (fun hb9 hc9 => ?_)
        refine pm_kI (d := d + 49) rfl (pm_V (y := zL_law_) (z := zX9_thrown) (As := []) zkX9_thrown pm_q9 (by decide) tw_1533 tw_1534 tw_1535 dL_law__821 rfl rfl (Nat.le_of_ble_eq_true rfl) hb9 hc9) (kcX9_thrown (d := d + 49) hfl l2 m117) (fun x120 m119 => ?_)
        refine pm_iload dL_law__824 rfl ?_
        refine pm_icmp_eq (tgt := 831) dL_law__826 rfl ?_ ?_
        · refine pm_iload dL_law__831 rfl ?_
          refine pm_if_ne (tgt := 848) dL_law__833 rfl ?_ ?_
          · refine pm_drop (ls2 := [.ref l0, .ref l1, .ref l2, .ref l3, .int s23.1, pmU, pmU, pmU]) (Nat.le_refl _) (pm_le_spec (pm_le_v (pm_le_v (pm_le_v (pm_le_v (pm_le_v (pm_le_u (pm_le_u (pm_le_u (pm_le_n)))))))))) ?_
            exact gL_law__j848 hfl again23 l0 l1 l2 l3 s23.1 m119 hag23
          · refine pm_aload_n dL_law__836 rfl rfl ?_
            refine pm_iconst (v := 0) dL_law__837 ki_0 ?_
            refine pm_lald (y := zL_law_) dL_law__838 (fun x121 => ?_)
            refine pm_iload dL_law__839 rfl ?_
            refine pm_i2l dL_law__841 ?_
            refine pm_lcmp dL_law__842 ?_
            refine pm_if_eq (tgt := 848) dL_law__843 rfl ?_ ?_
            · refine pm_drop (ls2 := [.ref l0, .ref l1, .ref l2, .ref l3, .int s23.1, pmU, pmU, pmU]) (Nat.le_refl _) (pm_le_spec (pm_le_v (pm_le_v (pm_le_v (pm_le_v (pm_le_v (pm_le_u (pm_le_u (pm_le_u (pm_le_n)))))))))) ?_
              exact gL_law__j848 hfl again23 l0 l1 l2 l3 s23.1 m119 hag23
            · refine pm_iconst (v := 0) dL_law__846 ki_0 ?_
              exact pm_nret (ty := .boolean) (w := 0) rfl (by decide) (by decide) dL_law__847
        · refine pm_iconst (v := 0) dL_law__829 ki_0 ?_
          exact pm_nret (ty := .boolean) (w := 0) rfl (by decide) (by decide) dL_law__830
      refine pm_case (c := (12 : Int32)) (fun h9 => ?_) (fun h9_12 => ?_)
      · refine pm_swIn (off := (811)) (tgt := 851) dL_law__40 (by rw [h9]; decide) (by rw [h9]; decide) (by rw [h9]; decide) (by decide) ?_
        refine pm_aload_n dL_law__851 rfl rfl ?_
        refine pm_aload_n dL_law__852 rfl rfl ?_
        refine pm_iload dL_law__853 rfl ?_
        refine pm_iconst (v := 1) dL_law__855 ki_1 ?_
        refine pm_iadd dL_law__856 ?_
        refine pm_iald (y := zL_law_) dL_law__857 (fun x122 => ?_)
        refine pm_aload_n dL_law__858 rfl rfl ?_
        refine pm_iload dL_law__859 rfl ?_
        refine pm_iconst (v := 2) dL_law__861 ki_2 ?_
        refine pm_iadd dL_law__862 ?_
        refine pm_iald (y := zL_law_) dL_law__863 (fun x123 => ?_)
        refine pm_aload_n dL_law__864 rfl rfl ?_
        refine pm_iload dL_law__865 rfl ?_
        refine pm_iconst (v := 3) dL_law__867 ki_3 ?_
        refine pm_iadd dL_law__868 ?_
        refine pm_iald (y := zL_law_) dL_law__869 (fun x124 => ?_)
        refine pm_aload_n dL_law__870 rfl rfl ?_
        refine pm_kI (d := d + 49) rfl (pm_SX (y := zL_law_) (z := zL_cost) (As := [.ref l1, .int x122, .int x123, .int x124, .ref l3]) zkL_cost tw_1154 tw_1155 dL_law__871 rfl rfl (Nat.le_of_ble_eq_true rfl)) (kcL_cost (d := d + 45) hfl l1 x122 x123 x124 l3 s23.2) (fun x126 m125 => ?_)
        refine pm_istore (ls2 := [.ref l0, .ref l1, .ref l2, .ref l3, .int s23.1, .int x126, pmU, pmU]) dL_law__874 rfl (Nat.le_of_ble_eq_true rfl) rfl ?_
        refine pm_aload_n dL_law__876 rfl rfl ?_
        refine pm_aload_n dL_law__877 rfl rfl ?_
        refine pm_iload dL_law__878 rfl ?_
        refine pm_iconst (v := 1) dL_law__880 ki_1 ?_
        refine pm_iadd dL_law__881 ?_
        refine pm_iald (y := zL_law_) dL_law__882 (fun x127 => ?_)
        refine pm_aload_n dL_law__883 rfl rfl ?_
        refine pm_iload dL_law__884 rfl ?_
        refine pm_iconst (v := 2) dL_law__886 ki_2 ?_
        refine pm_iadd dL_law__887 ?_
        refine pm_iald (y := zL_law_) dL_law__888 (fun x128 => ?_)
        refine pm_aload_n dL_law__889 rfl rfl ?_
        refine pm_iload dL_law__890 rfl ?_
        refine pm_iconst (v := 3) dL_law__892 ki_3 ?_
        refine pm_iadd dL_law__893 ?_
        refine pm_iald (y := zL_law_) dL_law__894 (fun x129 => ?_)
        refine pm_rcv (fun hb9 hc9 => ?_)
        refine pm_kI (d := d + 49) rfl (pm_V (y := zL_law_) (z := zX9_cost) (As := [.int x127, .int x128, .int x129]) zkX9_cost pm_q9 (by decide) tw_1797 tw_1798 tw_1799 dL_law__895 rfl rfl (Nat.le_of_ble_eq_true rfl) hb9 hc9) (kcX9_cost (d := d + 44) hfl l2 x127 x128 x129 m125) (fun x131 m130 => ?_)
        refine pm_istore (ls2 := [.ref l0, .ref l1, .ref l2, .ref l3, .int s23.1, .int x126, .int x131, pmU]) dL_law__898 rfl (Nat.le_of_ble_eq_true rfl) rfl ?_
        refine pm_aload_n dL_law__900 rfl rfl ?_
        refine pm_rcv (fun hb9 hc9 => ?_)
        refine pm_kI (d := d + 49) rfl (pm_V (y := zL_law_) (z := zX9_thrown) (As := []) zkX9_thrown pm_q9 (by decide) tw_1533 tw_1534 tw_1535 dL_law__901 rfl rfl (Nat.le_of_ble_eq_true rfl) hb9 hc9) (kcX9_thrown (d := d + 49) hfl l2 m130) (fun x133 m132 => ?_)
        refine pm_iload dL_law__904 rfl ?_
        refine pm_icmp_eq (tgt := 911) dL_law__906 rfl ?_ ?_
        · refine pm_iload dL_law__911 rfl ?_
          refine pm_if_ne (tgt := 928) dL_law__913 rfl ?_ ?_
          · refine pm_drop (ls2 := [.ref l0, .ref l1, .ref l2, .ref l3, .int s23.1, pmU, pmU, pmU]) (Nat.le_refl _) (pm_le_spec (pm_le_v (pm_le_v (pm_le_v (pm_le_v (pm_le_v (pm_le_u (pm_le_u (pm_le_u (pm_le_n)))))))))) ?_
            exact gL_law__j928 hfl again23 l0 l1 l2 l3 s23.1 m132 hag23
          · refine pm_aload_n dL_law__916 rfl rfl ?_
            refine pm_iconst (v := 0) dL_law__917 ki_0 ?_
            refine pm_lald (y := zL_law_) dL_law__918 (fun x134 => ?_)
            refine pm_iload dL_law__919 rfl ?_
            refine pm_i2l dL_law__921 ?_
            refine pm_lcmp dL_law__922 ?_
            refine pm_if_eq (tgt := 928) dL_law__923 rfl ?_ ?_
            · refine pm_drop (ls2 := [.ref l0, .ref l1, .ref l2, .ref l3, .int s23.1, pmU, pmU, pmU]) (Nat.le_refl _) (pm_le_spec (pm_le_v (pm_le_v (pm_le_v (pm_le_v (pm_le_v (pm_le_u (pm_le_u (pm_le_u (pm_le_n)))))))))) ?_
              exact gL_law__j928 hfl again23 l0 l1 l2 l3 s23.1 m132 hag23
            · refine pm_iconst (v := 0) dL_law__926 ki_0 ?_
              exact pm_nret (ty := .boolean) (w := 0) rfl (by decide) (by decide) dL_law__927
        · refine pm_iconst (v := 0) dL_law__909 ki_0 ?_
          exact pm_nret (ty := .boolean) (w := 0) rfl (by decide) (by decide) dL_law__910
      refine pm_case (c := (13 : Int32)) (fun h9 => ?_) (fun h9_13 => ?_)
      · refine pm_swIn (off := (891)) (tgt := 931) dL_law__40 (by rw [h9]; decide) (by rw [h9]; decide) (by rw [h9]; decide) (by decide) ?_
        refine pm_aload_n dL_law__931 rfl rfl ?_
        refine pm_aload_n dL_law__932 rfl rfl ?_
        refine pm_iload dL_law__933 rfl ?_
        refine pm_iconst (v := 1) dL_law__935 ki_1 ?_
        refine pm_iadd dL_law__936 ?_
        refine pm_iald (y := zL_law_) dL_law__937 (fun x135 => ?_)
        refine pm_aload_n dL_law__938 rfl rfl ?_
        refine pm_iload dL_law__939 rfl ?_
        refine pm_iconst (v := 2) dL_law__941 ki_2 ?_
        refine pm_iadd dL_law__942 ?_
        refine pm_iald (y := zL_law_) dL_law__943 (fun x136 => ?_)
        refine pm_aload_n dL_law__944 rfl rfl ?_
        refine pm_iload dL_law__945 rfl ?_
        refine pm_iconst (v := 3) dL_law__947 ki_3 ?_
        refine pm_iadd dL_law__948 ?_
        refine pm_iald (y := zL_law_) dL_law__949 (fun x137 => ?_)
        refine pm_aload_n dL_law__950 rfl rfl ?_
        refine pm_iload dL_law__951 rfl ?_
        refine pm_iconst (v := 4) dL_law__953 ki_4 ?_
        refine pm_iadd dL_law__954 ?_
        refine pm_iald (y := zL_law_) dL_law__955 (fun x138 => ?_)
        refine pm_aload_n dL_law__956 rfl rfl ?_
        refine pm_iload dL_law__957 rfl ?_
        refine pm_iconst (v := 5) dL_law__959 ki_5 ?_
        refine pm_iadd dL_law__960 ?_
        refine pm_iald (y := zL_law_) dL_law__961 (fun x139 => ?_)
        refine pm_aload_n dL_law__962 rfl rfl ?_
        refine pm_iload dL_law__963 rfl ?_
        refine pm_bipush (v := 6) dL_law__965 kb_6 ?_
        refine pm_iadd dL_law__967 ?_
        refine pm_iald (y := zL_law_) dL_law__968 (fun x140 => ?_)
        refine pm_aload_n dL_law__969 rfl rfl ?_
        refine pm_iload dL_law__970 rfl ?_
        refine pm_bipush (v := 7) dL_law__972 kb_7 ?_
        refine pm_iadd dL_law__974 ?_
        refine pm_iald (y := zL_law_) dL_law__975 (fun x141 => ?_)
        refine pm_aload_n dL_law__976 rfl rfl ?_
        refine pm_kI (d := d + 49) rfl (pm_SX (y := zL_law_) (z := zL_would) (As := [.ref l1, .int x135, .int x136, .int x137, .int x138, .int x139, .int x140, .int x141, .ref l3]) zkL_would tw_1162 tw_1163 dL_law__977 rfl rfl (Nat.le_of_ble_eq_true rfl)) (kcL_would (d := d + 46) hfl l1 x135 x136 x137 x138 x139 x140 x141 l3 s23.2) (fun x143 m142 => ?_)
        refine pm_istore (ls2 := [.ref l0, .ref l1, .ref l2, .ref l3, .int s23.1, .int x143, pmU, pmU]) dL_law__980 rfl (Nat.le_of_ble_eq_true rfl) rfl ?_
        refine pm_aload_n dL_law__982 rfl rfl ?_
        refine pm_aload_n dL_law__983 rfl rfl ?_
        refine pm_iload dL_law__984 rfl ?_
        refine pm_iconst (v := 1) dL_law__986 ki_1 ?_
        refine pm_iadd dL_law__987 ?_
        refine pm_iald (y := zL_law_) dL_law__988 (fun x144 => ?_)
        refine pm_aload_n dL_law__989 rfl rfl ?_
        refine pm_iload dL_law__990 rfl ?_
        refine pm_iconst (v := 2) dL_law__992 ki_2 ?_
        refine pm_iadd dL_law__993 ?_
        refine pm_iald (y := zL_law_) dL_law__994 (fun x145 => ?_)
        refine pm_aload_n dL_law__995 rfl rfl ?_
        refine pm_iload dL_law__996 rfl ?_
        refine pm_iconst (v := 3) dL_law__998 ki_3 ?_
        refine pm_iadd dL_law__999 ?_
        refine pm_iald (y := zL_law_) dL_law__1000 (fun x146 => ?_)
        refine pm_aload_n dL_law__1001 rfl rfl ?_
        refine pm_iload dL_law__1002 rfl ?_
        refine pm_iconst (v := 4) dL_law__1004 ki_4 ?_
        refine pm_iadd dL_law__1005 ?_
        refine pm_iald (y := zL_law_) dL_law__1006 (fun x147 => ?_)
        refine pm_aload_n dL_law__1007 rfl rfl ?_
        refine pm_iload dL_law__1008 rfl ?_
        refine pm_iconst (v := 5) dL_law__1010 ki_5 ?_
        refine pm_iadd dL_law__1011 ?_
        refine pm_iald (y := zL_law_) dL_law__1012 (fun x148 => ?_)
        refine pm_aload_n dL_law__1013 rfl rfl ?_
        refine pm_iload dL_law__1014 rfl ?_
        refine pm_bipush (v := 6) dL_law__1016 kb_6 ?_
        refine pm_iadd dL_law__1018 ?_
        refine pm_iald (y := zL_law_) dL_law__1019 (fun x149 => ?_)
        refine pm_aload_n dL_law__1020 rfl rfl ?_
        refine pm_iload dL_law__1021 rfl ?_
        refine pm_bipush (v := 7) dL_law__1023 kb_7 ?_
        refine pm_iadd dL_law__1025 ?_
        refine pm_iald (y := zL_law_) dL_law__1026 (fun x150 => ?_)
        refine pm_rcv (fun hb9 hc9 => ?_)
        refine pm_kI (d := d + 49) rfl (pm_V (y := zL_law_) (z := zX9_would) (As := [.int x144, .int x145, .int x146, .int x147, .int x148, .int x149, .int x150]) zkX9_would pm_q9 (by decide) tw_1801 tw_1802 tw_1803 dL_law__1027 rfl rfl (Nat.le_of_ble_eq_true rfl) hb9 hc9) (kcX9_would (d := d + 45) hfl l2 x144 x145 x146 x147 x148 x149 x150 m142) (fun x152 m151 => ?_)
        refine pm_istore (ls2 := [.ref l0, .ref l1, .ref l2, .ref l3, .int s23.1, .int x143, .int x152, pmU]) dL_law__1030 rfl (Nat.le_of_ble_eq_true rfl) rfl ?_
        refine pm_aload_n dL_law__1032 rfl rfl ?_
        refine pm_rcv (fun hb9 hc9 => ?_)
        refine pm_kI (d := d + 49) rfl (pm_V (y := zL_law_) (z := zX9_thrown) (As := []) zkX9_thrown pm_q9 (by decide) tw_1533 tw_1534 tw_1535 dL_law__1033 rfl rfl (Nat.le_of_ble_eq_true rfl) hb9 hc9) (kcX9_thrown (d := d + 49) hfl l2 m151) (fun x154 m153 => ?_)
        refine pm_iload dL_law__1036 rfl ?_
        refine pm_icmp_eq (tgt := 1043) dL_law__1038 rfl ?_ ?_
        · refine pm_iload dL_law__1043 rfl ?_
          refine pm_if_ne (tgt := 1060) dL_law__1045 rfl ?_ ?_
          · refine pm_drop (ls2 := [.ref l0, .ref l1, .ref l2, .ref l3, .int s23.1, pmU, pmU, pmU]) (Nat.le_refl _) (pm_le_spec (pm_le_v (pm_le_v (pm_le_v (pm_le_v (pm_le_v (pm_le_u (pm_le_u (pm_le_u (pm_le_n)))))))))) ?_
            exact gL_law__j1060 hfl again23 l0 l1 l2 l3 s23.1 m153 hag23
          · refine pm_aload_n dL_law__1048 rfl rfl ?_
            refine pm_iconst (v := 0) dL_law__1049 ki_0 ?_
            refine pm_lald (y := zL_law_) dL_law__1050 (fun x155 => ?_)
            refine pm_iload dL_law__1051 rfl ?_
            refine pm_i2l dL_law__1053 ?_
            refine pm_lcmp dL_law__1054 ?_
            refine pm_if_eq (tgt := 1060) dL_law__1055 rfl ?_ ?_
            · refine pm_drop (ls2 := [.ref l0, .ref l1, .ref l2, .ref l3, .int s23.1, pmU, pmU, pmU]) (Nat.le_refl _) (pm_le_spec (pm_le_v (pm_le_v (pm_le_v (pm_le_v (pm_le_v (pm_le_u (pm_le_u (pm_le_u (pm_le_n)))))))))) ?_
              exact gL_law__j1060 hfl again23 l0 l1 l2 l3 s23.1 m153 hag23
            · refine pm_iconst (v := 0) dL_law__1058 ki_0 ?_
              exact pm_nret (ty := .boolean) (w := 0) rfl (by decide) (by decide) dL_law__1059
        · refine pm_iconst (v := 0) dL_law__1041 ki_0 ?_
          exact pm_nret (ty := .boolean) (w := 0) rfl (by decide) (by decide) dL_law__1042
      refine pm_case (c := (14 : Int32)) (fun h9 => ?_) (fun h9_14 => ?_)
      · refine pm_swIn (off := (1023)) (tgt := 1063) dL_law__40 (by rw [h9]; decide) (by rw [h9]; decide) (by rw [h9]; decide) (by decide) ?_
        refine pm_aload_n dL_law__1063 rfl rfl ?_
        refine pm_aload_n dL_law__1064 rfl rfl ?_
        refine pm_iload dL_law__1065 rfl ?_
        refine pm_iconst (v := 1) dL_law__1067 ki_1 ?_
        refine pm_iadd dL_law__1068 ?_
        refine pm_iald (y := zL_law_) dL_law__1069 (fun x156 => ?_)
        refine pm_aload_n dL_law__1070 rfl rfl ?_
        refine pm_iload dL_law__1071 rfl ?_
        refine pm_iconst (v := 2) dL_law__1073 ki_2 ?_
        refine pm_iadd dL_law__1074 ?_
        refine pm_iald (y := zL_law_) dL_law__1075 (fun x157 => ?_)
        refine pm_aload_n dL_law__1076 rfl rfl ?_
        refine pm_kI (d := d + 49) rfl (pm_SX (y := zL_law_) (z := zL_ahead) (As := [.ref l1, .int x156, .int x157, .ref l3]) zkL_ahead tw_1170 tw_1171 dL_law__1077 rfl rfl (Nat.le_of_ble_eq_true rfl)) (kcL_ahead (d := d + 44) hfl l1 x156 x157 l3 s23.2) (fun x159 m158 => ?_)
        refine pm_istore (ls2 := [.ref l0, .ref l1, .ref l2, .ref l3, .int s23.1, .int x159, pmU, pmU]) dL_law__1080 rfl (Nat.le_of_ble_eq_true rfl) rfl ?_
        refine pm_aload_n dL_law__1082 rfl rfl ?_
        refine pm_aload_n dL_law__1083 rfl rfl ?_
        refine pm_iload dL_law__1084 rfl ?_
        refine pm_iconst (v := 1) dL_law__1086 ki_1 ?_
        refine pm_iadd dL_law__1087 ?_
        refine pm_iald (y := zL_law_) dL_law__1088 (fun x160 => ?_)
        refine pm_aload_n dL_law__1089 rfl rfl ?_
        refine pm_iload dL_law__1090 rfl ?_
        refine pm_iconst (v := 2) dL_law__1092 ki_2 ?_
        refine pm_iadd dL_law__1093 ?_
        refine pm_iald (y := zL_law_) dL_law__1094 (fun x161 => ?_)
        refine pm_rcv (fun hb9 hc9 => ?_)
        refine pm_kI (d := d + 49) rfl (pm_V (y := zL_law_) (z := zX9_ahead) (As := [.int x160, .int x161]) zkX9_ahead pm_q9 (by decide) tw_1805 tw_1806 tw_1807 dL_law__1095 rfl rfl (Nat.le_of_ble_eq_true rfl) hb9 hc9) (kcX9_ahead (d := d + 45) hfl l2 x160 x161 m158) (fun x163 m162 => ?_)
        refine pm_istore (ls2 := [.ref l0, .ref l1, .ref l2, .ref l3, .int s23.1, .int x159, .int x163, pmU]) dL_law__1098 rfl (Nat.le_of_ble_eq_true rfl) rfl ?_
        refine pm_aload_n dL_law__1100 rfl rfl ?_
        refine pm_rcv (fun hb9 hc9 => ?_)
        refine pm_kI (d := d + 49) rfl (pm_V (y := zL_law_) (z := zX9_thrown) (As := []) zkX9_thrown pm_q9 (by decide) tw_1533 tw_1534 tw_1535 dL_law__1101 rfl rfl (Nat.le_of_ble_eq_true rfl) hb9 hc9) (kcX9_thrown (d := d + 49) hfl l2 m162) (fun x165 m164 => ?_)
        refine pm_iload dL_law__1104 rfl ?_
        refine pm_icmp_eq (tgt := 1111) dL_law__1106 rfl ?_ ?_
        · refine pm_iload dL_law__1111 rfl ?_
          refine pm_if_ne (tgt := 1128) dL_law__1113 rfl ?_ ?_
          · refine pm_drop (ls2 := [.ref l0, .ref l1, .ref l2, .ref l3, .int s23.1, pmU, pmU, pmU]) (Nat.le_refl _) (pm_le_spec (pm_le_v (pm_le_v (pm_le_v (pm_le_v (pm_le_v (pm_le_u (pm_le_u (pm_le_u (pm_le_n)))))))))) ?_
            exact gL_law__j1128 hfl again23 l0 l1 l2 l3 s23.1 m164 hag23
          · refine pm_aload_n dL_law__1116 rfl rfl ?_
            refine pm_iconst (v := 0) dL_law__1117 ki_0 ?_
            refine pm_lald (y := zL_law_) dL_law__1118 (fun x166 => ?_)
            refine pm_iload dL_law__1119 rfl ?_
            refine pm_i2l dL_law__1121 ?_
            refine pm_lcmp dL_law__1122 ?_
            refine pm_if_eq (tgt := 1128) dL_law__1123 rfl ?_ ?_
            · refine pm_drop (ls2 := [.ref l0, .ref l1, .ref l2, .ref l3, .int s23.1, pmU, pmU, pmU]) (Nat.le_refl _) (pm_le_spec (pm_le_v (pm_le_v (pm_le_v (pm_le_v (pm_le_v (pm_le_u (pm_le_u (pm_le_u (pm_le_n)))))))))) ?_
              exact gL_law__j1128 hfl again23 l0 l1 l2 l3 s23.1 m164 hag23
            · refine pm_iconst (v := 0) dL_law__1126 ki_0 ?_
              exact pm_nret (ty := .boolean) (w := 0) rfl (by decide) (by decide) dL_law__1127
        · refine pm_iconst (v := 0) dL_law__1109 ki_0 ?_
          exact pm_nret (ty := .boolean) (w := 0) rfl (by decide) (by decide) dL_law__1110
      refine pm_case (c := (15 : Int32)) (fun h9 => ?_) (fun h9_15 => ?_)
      · refine pm_swIn (off := (1091)) (tgt := 1131) dL_law__40 (by rw [h9]; decide) (by rw [h9]; decide) (by rw [h9]; decide) (by decide) ?_
        refine pm_aload_n dL_law__1131 rfl rfl ?_
        refine pm_rcv (fun hb9 hc9 => ?_)
        refine pm_kI (d := d + 49) rfl (pm_V (y := zL_law_) (z := zX8_ends) (As := []) zkX8_ends pm_q8 (by decide) tw_552 tw_553 tw_554 dL_law__1132 rfl rfl (Nat.le_of_ble_eq_true rfl) hb9 hc9) (kcX8_ends (d := d + 46) hfl l1 s23.2) (fun x168 m167 => ?_)
        refine pm_aload_n dL_law__1135 rfl rfl ?_
        refine pm_rcv (fun hb9 hc9 => ?_)
        refine pm_kI (d := d + 49) rfl (pm_V (y := zL_law_) (z := zX9_ends) (As := []) zkX9_ends pm_q9 (by decide) tw_1809 tw_1810 tw_1811 dL_law__1136 rfl rfl (Nat.le_of_ble_eq_true rfl) hb9 hc9) (kcX9_ends (d := d + 45) hfl l2 m167) (fun x170 m169 => ?_)
        refine pm_icmp_eq (tgt := 2232) dL_law__1139 rfl ?_ ?_
        · exact gL_law__j2232 hfl again23 l0 l1 l2 l3 s23.1 m169 hag23
        · refine pm_iconst (v := 0) dL_law__1142 ki_0 ?_
          exact pm_nret (ty := .boolean) (w := 0) rfl (by decide) (by decide) dL_law__1143
      refine pm_case (c := (16 : Int32)) (fun h9 => ?_) (fun h9_16 => ?_)
      · refine pm_swIn (off := (1104)) (tgt := 1144) dL_law__40 (by rw [h9]; decide) (by rw [h9]; decide) (by rw [h9]; decide) (by decide) ?_
        refine pm_aload_n dL_law__1144 rfl rfl ?_
        refine pm_rcv (fun hb9 hc9 => ?_)
        refine pm_kI (d := d + 49) rfl (pm_V (y := zL_law_) (z := zX8_says) (As := []) zkX8_says pm_q8 (by decide) tw_603 tw_604 tw_605 dL_law__1145 rfl rfl (Nat.le_of_ble_eq_true rfl) hb9 hc9) (kcX8_says (d := d + 46) hfl l1 s23.2) (fun x172 m171 => ?_)
        refine pm_aload_n dL_law__1148 rfl rfl ?_
        refine pm_rcv (fun hb9 hc9 => ?_)
        refine pm_kI (d := d + 49) rfl (pm_V (y := zL_law_) (z := zX9_says) (As := []) zkX9_says pm_q9 (by decide) tw_1813 tw_1814 tw_1815 dL_law__1149 rfl rfl (Nat.le_of_ble_eq_true rfl) hb9 hc9) (kcX9_says (d := d + 48) hfl l2 m171) (fun x174 m173 => ?_)
        refine pm_icmp_eq (tgt := 2232) dL_law__1152 rfl ?_ ?_
        · exact gL_law__j2232 hfl again23 l0 l1 l2 l3 s23.1 m173 hag23
        · refine pm_iconst (v := 0) dL_law__1155 ki_0 ?_
          exact pm_nret (ty := .boolean) (w := 0) rfl (by decide) (by decide) dL_law__1156
      refine pm_case (c := (17 : Int32)) (fun h9 => ?_) (fun h9_17 => ?_)
      · refine pm_swIn (off := (1117)) (tgt := 1157) dL_law__40 (by rw [h9]; decide) (by rw [h9]; decide) (by rw [h9]; decide) (by decide) ?_
        refine pm_aload_n dL_law__1157 rfl rfl ?_
        refine pm_rcv (fun hb9 hc9 => ?_)
        refine pm_kL (d := d + 49) rfl (pm_V (y := zL_law_) (z := zX8_ways) (As := []) zkX8_ways pm_q8 (by decide) tw_615 tw_616 tw_617 dL_law__1158 rfl rfl (Nat.le_of_ble_eq_true rfl) hb9 hc9) (kcX8_ways (d := d + 47) hfl l1 s23.2) (fun x176 m175 => ?_)
        refine pm_aload_n dL_law__1161 rfl rfl ?_
        refine pm_rcv (fun hb9 hc9 => ?_)
        refine pm_kL (d := d + 49) rfl (pm_V (y := zL_law_) (z := zX9_ways) (As := []) zkX9_ways pm_q9 (by decide) tw_1841 tw_1842 tw_1843 dL_law__1162 rfl rfl (Nat.le_of_ble_eq_true rfl) hb9 hc9) (kcX9_ways (d := d + 48) hfl l2 m175) (fun x178 m177 => ?_)
        refine pm_lcmp dL_law__1165 ?_
        refine pm_if_eq (tgt := 2232) dL_law__1166 rfl ?_ ?_
        · exact gL_law__j2232 hfl again23 l0 l1 l2 l3 s23.1 m177 hag23
        · refine pm_iconst (v := 0) dL_law__1169 ki_0 ?_
          exact pm_nret (ty := .boolean) (w := 0) rfl (by decide) (by decide) dL_law__1170
      refine pm_case (c := (18 : Int32)) (fun h9 => ?_) (fun h9_18 => ?_)
      · refine pm_swIn (off := (1131)) (tgt := 1171) dL_law__40 (by rw [h9]; decide) (by rw [h9]; decide) (by rw [h9]; decide) (by decide) ?_
        refine pm_aload_n dL_law__1171 rfl rfl ?_
        refine pm_rcv (fun hb9 hc9 => ?_)
        refine pm_kI (d := d + 49) rfl (pm_V (y := zL_law_) (z := zX8_strokes) (As := []) zkX8_strokes pm_q8 (by decide) tw_628 tw_629 tw_630 dL_law__1172 rfl rfl (Nat.le_of_ble_eq_true rfl) hb9 hc9) (kcX8_strokes (d := d + 46) hfl l1 s23.2) (fun x180 m179 => ?_)
        refine pm_aload_n dL_law__1175 rfl rfl ?_
        refine pm_rcv (fun hb9 hc9 => ?_)
        refine pm_kI (d := d + 49) rfl (pm_V (y := zL_law_) (z := zX9_strokes) (As := []) zkX9_strokes pm_q9 (by decide) tw_1821 tw_1822 tw_1823 dL_law__1176 rfl rfl (Nat.le_of_ble_eq_true rfl) hb9 hc9) (kcX9_strokes (d := d + 46) hfl l2 m179) (fun x182 m181 => ?_)
        refine pm_icmp_eq (tgt := 2232) dL_law__1179 rfl ?_ ?_
        · exact gL_law__j2232 hfl again23 l0 l1 l2 l3 s23.1 m181 hag23
        · refine pm_iconst (v := 0) dL_law__1182 ki_0 ?_
          exact pm_nret (ty := .boolean) (w := 0) rfl (by decide) (by decide) dL_law__1183
      refine pm_case (c := (19 : Int32)) (fun h9 => ?_) (fun h9_19 => ?_)
      · refine pm_swIn (off := (1144)) (tgt := 1184) dL_law__40 (by rw [h9]; decide) (by rw [h9]; decide) (by rw [h9]; decide) (by decide) ?_
        refine pm_aload_n dL_law__1184 rfl rfl ?_
        refine pm_rcv (fun hb9 hc9 => ?_)
        refine pm_kL (d := d + 49) rfl (pm_V (y := zL_law_) (z := zX8_best) (As := []) zkX8_best pm_q8 (by decide) tw_656 tw_657 tw_658 dL_law__1185 rfl rfl (Nat.le_of_ble_eq_true rfl) hb9 hc9) (kcX8_best (d := d + 46) hfl l1 s23.2) (fun x184 m183 => ?_)
        refine pm_aload_n dL_law__1188 rfl rfl ?_
        refine pm_rcv (fun hb9 hc9 => ?_)
        refine pm_kL (d := d + 49) rfl (pm_V (y := zL_law_) (z := zX9_best) (As := []) zkX9_best pm_q9 (by decide) tw_1837 tw_1838 tw_1839 dL_law__1189 rfl rfl (Nat.le_of_ble_eq_true rfl) hb9 hc9) (kcX9_best (d := d + 46) hfl l2 m183) (fun x186 m185 => ?_)
        refine pm_lcmp dL_law__1192 ?_
        refine pm_if_eq (tgt := 2232) dL_law__1193 rfl ?_ ?_
        · exact gL_law__j2232 hfl again23 l0 l1 l2 l3 s23.1 m185 hag23
        · refine pm_iconst (v := 0) dL_law__1196 ki_0 ?_
          exact pm_nret (ty := .boolean) (w := 0) rfl (by decide) (by decide) dL_law__1197
      refine pm_case (c := (20 : Int32)) (fun h9 => ?_) (fun h9_20 => ?_)
      · refine pm_swIn (off := (1158)) (tgt := 1198) dL_law__40 (by rw [h9]; decide) (by rw [h9]; decide) (by rw [h9]; decide) (by decide) ?_
        refine pm_aload_n dL_law__1198 rfl rfl ?_
        refine pm_aload_n dL_law__1199 rfl rfl ?_
        refine pm_iload dL_law__1200 rfl ?_
        refine pm_iconst (v := 1) dL_law__1202 ki_1 ?_
        refine pm_iadd dL_law__1203 ?_
        refine pm_iald (y := zL_law_) dL_law__1204 (fun x187 => ?_)
        refine pm_aload_n dL_law__1205 rfl rfl ?_
        refine pm_kI (d := d + 49) rfl (pm_SX (y := zL_law_) (z := zL_unlike) (As := [.ref l1, .int x187, .ref l3]) zkL_unlike tw_1178 tw_1179 dL_law__1206 rfl rfl (Nat.le_of_ble_eq_true rfl)) (kcL_unlike (d := d + 46) hfl l1 x187 l3 s23.2) (fun x189 m188 => ?_)
        refine pm_istore (ls2 := [.ref l0, .ref l1, .ref l2, .ref l3, .int s23.1, .int x189, pmU, pmU]) dL_law__1209 rfl (Nat.le_of_ble_eq_true rfl) rfl ?_
        refine pm_aload_n dL_law__1211 rfl rfl ?_
        refine pm_aload_n dL_law__1212 rfl rfl ?_
        refine pm_iload dL_law__1213 rfl ?_
        refine pm_iconst (v := 1) dL_law__1215 ki_1 ?_
        refine pm_iadd dL_law__1216 ?_
        refine pm_iald (y := zL_law_) dL_law__1217 (fun x190 => ?_)
        refine pm_rcv (fun hb9 hc9 => ?_)
        refine pm_kL (d := d + 49) rfl (pm_V (y := zL_law_) (z := zX9_unlike) (As := [.int x190]) zkX9_unlike pm_q9 (by decide) tw_1845 tw_1846 tw_1847 dL_law__1218 rfl rfl (Nat.le_of_ble_eq_true rfl) hb9 hc9) (kcX9_unlike (d := d + 48) hfl l2 x190 m188) (fun x192 m191 => ?_)
        refine pm_lstore (ls2 := [.ref l0, .ref l1, .ref l2, .ref l3, .int s23.1, .int x189, .long x192, pmU]) dL_law__1221 rfl (Nat.le_of_ble_eq_true rfl) rfl ?_
        refine pm_aload_n dL_law__1223 rfl rfl ?_
        refine pm_rcv (fun hb9 hc9 => ?_)
        refine pm_kI (d := d + 49) rfl (pm_V (y := zL_law_) (z := zX9_thrown) (As := []) zkX9_thrown pm_q9 (by decide) tw_1533 tw_1534 tw_1535 dL_law__1224 rfl rfl (Nat.le_of_ble_eq_true rfl) hb9 hc9) (kcX9_thrown (d := d + 49) hfl l2 m191) (fun x194 m193 => ?_)
        refine pm_iload dL_law__1227 rfl ?_
        refine pm_icmp_eq (tgt := 1234) dL_law__1229 rfl ?_ ?_
        · refine pm_iload dL_law__1234 rfl ?_
          refine pm_if_ne (tgt := 1250) dL_law__1236 rfl ?_ ?_
          · refine pm_drop (ls2 := [.ref l0, .ref l1, .ref l2, .ref l3, .int s23.1, pmU, pmU, pmU]) (Nat.le_refl _) (pm_le_spec (pm_le_v (pm_le_v (pm_le_v (pm_le_v (pm_le_v (pm_le_u (pm_le_u (pm_le_u (pm_le_n)))))))))) ?_
            exact gL_law__j1250 hfl again23 l0 l1 l2 l3 s23.1 m193 hag23
          · refine pm_aload_n dL_law__1239 rfl rfl ?_
            refine pm_iconst (v := 0) dL_law__1240 ki_0 ?_
            refine pm_lald (y := zL_law_) dL_law__1241 (fun x195 => ?_)
            refine pm_lload dL_law__1242 rfl ?_
            refine pm_lcmp dL_law__1244 ?_
            refine pm_if_eq (tgt := 1250) dL_law__1245 rfl ?_ ?_
            · refine pm_drop (ls2 := [.ref l0, .ref l1, .ref l2, .ref l3, .int s23.1, pmU, pmU, pmU]) (Nat.le_refl _) (pm_le_spec (pm_le_v (pm_le_v (pm_le_v (pm_le_v (pm_le_v (pm_le_u (pm_le_u (pm_le_u (pm_le_n)))))))))) ?_
              exact gL_law__j1250 hfl again23 l0 l1 l2 l3 s23.1 m193 hag23
            · refine pm_iconst (v := 0) dL_law__1248 ki_0 ?_
              exact pm_nret (ty := .boolean) (w := 0) rfl (by decide) (by decide) dL_law__1249
        · refine pm_iconst (v := 0) dL_law__1232 ki_0 ?_
          exact pm_nret (ty := .boolean) (w := 0) rfl (by decide) (by decide) dL_law__1233
      refine pm_case (c := (21 : Int32)) (fun h9 => ?_) (fun h9_21 => ?_)
      · refine pm_swIn (off := (1213)) (tgt := 1253) dL_law__40 (by rw [h9]; decide) (by rw [h9]; decide) (by rw [h9]; decide) (by decide) ?_
        refine pm_aload_n dL_law__1253 rfl rfl ?_
        refine pm_aload_n dL_law__1254 rfl rfl ?_
        refine pm_iload dL_law__1255 rfl ?_
        refine pm_iconst (v := 1) dL_law__1257 ki_1 ?_
        refine pm_iadd dL_law__1258 ?_
        refine pm_iald (y := zL_law_) dL_law__1259 (fun x196 => ?_)
        refine pm_aload_n dL_law__1260 rfl rfl ?_
        refine pm_kI (d := d + 49) rfl (pm_SX (y := zL_law_) (z := zL_forged) (As := [.ref l1, .int x196, .ref l3]) zkL_forged tw_1193 tw_1194 dL_law__1261 rfl rfl (Nat.le_of_ble_eq_true rfl)) (kcL_forged (d := d + 44) hfl l1 x196 l3 s23.2) (fun x198 m197 => ?_)
        refine pm_istore (ls2 := [.ref l0, .ref l1, .ref l2, .ref l3, .int s23.1, .int x198, pmU, pmU]) dL_law__1264 rfl (Nat.le_of_ble_eq_true rfl) rfl ?_
        refine pm_aload_n dL_law__1266 rfl rfl ?_
        refine pm_aload_n dL_law__1267 rfl rfl ?_
        refine pm_iload dL_law__1268 rfl ?_
        refine pm_iconst (v := 1) dL_law__1270 ki_1 ?_
        refine pm_iadd dL_law__1271 ?_
        refine pm_iald (y := zL_law_) dL_law__1272 (fun x199 => ?_)
        refine pm_rcv (fun hb9 hc9 => ?_)
        refine pm_kI (d := d + 49) rfl (pm_V (y := zL_law_) (z := zX9_forged) (As := [.int x199]) zkX9_forged pm_q9 (by decide) tw_1849 tw_1850 tw_1851 dL_law__1273 rfl rfl (Nat.le_of_ble_eq_true rfl) hb9 hc9) (kcX9_forged (d := d + 47) hfl l2 x199 m197) (fun x201 m200 => ?_)
        refine pm_istore (ls2 := [.ref l0, .ref l1, .ref l2, .ref l3, .int s23.1, .int x198, .int x201, pmU]) dL_law__1276 rfl (Nat.le_of_ble_eq_true rfl) rfl ?_
        refine pm_aload_n dL_law__1278 rfl rfl ?_
        refine pm_rcv (fun hb9 hc9 => ?_)
        refine pm_kI (d := d + 49) rfl (pm_V (y := zL_law_) (z := zX9_thrown) (As := []) zkX9_thrown pm_q9 (by decide) tw_1533 tw_1534 tw_1535 dL_law__1279 rfl rfl (Nat.le_of_ble_eq_true rfl) hb9 hc9) (kcX9_thrown (d := d + 49) hfl l2 m200) (fun x203 m202 => ?_)
        refine pm_iload dL_law__1282 rfl ?_
        refine pm_icmp_eq (tgt := 1289) dL_law__1284 rfl ?_ ?_
        · refine pm_iload dL_law__1289 rfl ?_
          refine pm_if_ne (tgt := 1306) dL_law__1291 rfl ?_ ?_
          · refine pm_drop (ls2 := [.ref l0, .ref l1, .ref l2, .ref l3, .int s23.1, pmU, pmU, pmU]) (Nat.le_refl _) (pm_le_spec (pm_le_v (pm_le_v (pm_le_v (pm_le_v (pm_le_v (pm_le_u (pm_le_u (pm_le_u (pm_le_n)))))))))) ?_
            exact gL_law__j1306 hfl again23 l0 l1 l2 l3 s23.1 m202 hag23
          · refine pm_aload_n dL_law__1294 rfl rfl ?_
            refine pm_iconst (v := 0) dL_law__1295 ki_0 ?_
            refine pm_lald (y := zL_law_) dL_law__1296 (fun x204 => ?_)
            refine pm_iload dL_law__1297 rfl ?_
            refine pm_i2l dL_law__1299 ?_
            refine pm_lcmp dL_law__1300 ?_
            refine pm_if_eq (tgt := 1306) dL_law__1301 rfl ?_ ?_
            · refine pm_drop (ls2 := [.ref l0, .ref l1, .ref l2, .ref l3, .int s23.1, pmU, pmU, pmU]) (Nat.le_refl _) (pm_le_spec (pm_le_v (pm_le_v (pm_le_v (pm_le_v (pm_le_v (pm_le_u (pm_le_u (pm_le_u (pm_le_n)))))))))) ?_
              exact gL_law__j1306 hfl again23 l0 l1 l2 l3 s23.1 m202 hag23
            · refine pm_iconst (v := 0) dL_law__1304 ki_0 ?_
              exact pm_nret (ty := .boolean) (w := 0) rfl (by decide) (by decide) dL_law__1305
        · refine pm_iconst (v := 0) dL_law__1287 ki_0 ?_
          exact pm_nret (ty := .boolean) (w := 0) rfl (by decide) (by decide) dL_law__1288
      refine pm_case (c := (22 : Int32)) (fun h9 => ?_) (fun h9_22 => ?_)
      · refine pm_swIn (off := (1269)) (tgt := 1309) dL_law__40 (by rw [h9]; decide) (by rw [h9]; decide) (by rw [h9]; decide) (by decide) ?_
        refine pm_aload_n dL_law__1309 rfl rfl ?_
        refine pm_aload_n dL_law__1310 rfl rfl ?_
        refine pm_iload dL_law__1311 rfl ?_
        refine pm_iconst (v := 1) dL_law__1313 ki_1 ?_
        refine pm_iadd dL_law__1314 ?_
        refine pm_iald (y := zL_law_) dL_law__1315 (fun x205 => ?_)
        refine pm_aload_n dL_law__1316 rfl rfl ?_
        refine pm_kI (d := d + 49) rfl (pm_SX (y := zL_law_) (z := zL_value) (As := [.ref l1, .int x205, .ref l3]) zkL_value tw_1209 tw_1210 dL_law__1317 rfl rfl (Nat.le_of_ble_eq_true rfl)) (kcL_value (d := d + 46) hfl l1 x205 l3 s23.2) (fun x207 m206 => ?_)
        refine pm_istore (ls2 := [.ref l0, .ref l1, .ref l2, .ref l3, .int s23.1, .int x207, pmU, pmU]) dL_law__1320 rfl (Nat.le_of_ble_eq_true rfl) rfl ?_
        refine pm_aload_n dL_law__1322 rfl rfl ?_
        refine pm_aload_n dL_law__1323 rfl rfl ?_
        refine pm_iload dL_law__1324 rfl ?_
        refine pm_iconst (v := 1) dL_law__1326 ki_1 ?_
        refine pm_iadd dL_law__1327 ?_
        refine pm_iald (y := zL_law_) dL_law__1328 (fun x208 => ?_)
        refine pm_rcv (fun hb9 hc9 => ?_)
        refine pm_kI (d := d + 49) rfl (pm_V (y := zL_law_) (z := zX9_value) (As := [.int x208]) zkX9_value pm_q9 (by decide) tw_1854 tw_1855 tw_1856 dL_law__1329 rfl rfl (Nat.le_of_ble_eq_true rfl) hb9 hc9) (kcX9_value (d := d + 47) hfl l2 x208 m206) (fun x210 m209 => ?_)
        refine pm_istore (ls2 := [.ref l0, .ref l1, .ref l2, .ref l3, .int s23.1, .int x207, .int x210, pmU]) dL_law__1332 rfl (Nat.le_of_ble_eq_true rfl) rfl ?_
        refine pm_aload_n dL_law__1334 rfl rfl ?_
        refine pm_rcv (fun hb9 hc9 => ?_)
        refine pm_kI (d := d + 49) rfl (pm_V (y := zL_law_) (z := zX9_thrown) (As := []) zkX9_thrown pm_q9 (by decide) tw_1533 tw_1534 tw_1535 dL_law__1335 rfl rfl (Nat.le_of_ble_eq_true rfl) hb9 hc9) (kcX9_thrown (d := d + 49) hfl l2 m209) (fun x212 m211 => ?_)
        refine pm_iload dL_law__1338 rfl ?_
        refine pm_icmp_eq (tgt := 1345) dL_law__1340 rfl ?_ ?_
        · refine pm_iload dL_law__1345 rfl ?_
          refine pm_if_ne (tgt := 1362) dL_law__1347 rfl ?_ ?_
          · refine pm_drop (ls2 := [.ref l0, .ref l1, .ref l2, .ref l3, .int s23.1, pmU, pmU, pmU]) (Nat.le_refl _) (pm_le_spec (pm_le_v (pm_le_v (pm_le_v (pm_le_v (pm_le_v (pm_le_u (pm_le_u (pm_le_u (pm_le_n)))))))))) ?_
            exact gL_law__j1362 hfl again23 l0 l1 l2 l3 s23.1 m211 hag23
          · refine pm_aload_n dL_law__1350 rfl rfl ?_
            refine pm_iconst (v := 0) dL_law__1351 ki_0 ?_
            refine pm_lald (y := zL_law_) dL_law__1352 (fun x213 => ?_)
            refine pm_iload dL_law__1353 rfl ?_
            refine pm_i2l dL_law__1355 ?_
            refine pm_lcmp dL_law__1356 ?_
            refine pm_if_eq (tgt := 1362) dL_law__1357 rfl ?_ ?_
            · refine pm_drop (ls2 := [.ref l0, .ref l1, .ref l2, .ref l3, .int s23.1, pmU, pmU, pmU]) (Nat.le_refl _) (pm_le_spec (pm_le_v (pm_le_v (pm_le_v (pm_le_v (pm_le_v (pm_le_u (pm_le_u (pm_le_u (pm_le_n)))))))))) ?_
              exact gL_law__j1362 hfl again23 l0 l1 l2 l3 s23.1 m211 hag23
            · refine pm_iconst (v := 0) dL_law__1360 ki_0 ?_
              exact pm_nret (ty := .boolean) (w := 0) rfl (by decide) (by decide) dL_law__1361
        · refine pm_iconst (v := 0) dL_law__1343 ki_0 ?_
          exact pm_nret (ty := .boolean) (w := 0) rfl (by decide) (by decide) dL_law__1344
      refine pm_case (c := (23 : Int32)) (fun h9 => ?_) (fun h9_23 => ?_)
      · refine pm_swIn (off := (1325)) (tgt := 1365) dL_law__40 (by rw [h9]; decide) (by rw [h9]; decide) (by rw [h9]; decide) (by decide) ?_
        refine pm_aload_n dL_law__1365 rfl rfl ?_
        refine pm_aload_n dL_law__1366 rfl rfl ?_
        refine pm_iload dL_law__1367 rfl ?_
        refine pm_iconst (v := 1) dL_law__1369 ki_1 ?_
        refine pm_iadd dL_law__1370 ?_
        refine pm_iald (y := zL_law_) dL_law__1371 (fun x214 => ?_)
        refine pm_aload_n dL_law__1372 rfl rfl ?_
        refine pm_iload dL_law__1373 rfl ?_
        refine pm_iconst (v := 2) dL_law__1375 ki_2 ?_
        refine pm_iadd dL_law__1376 ?_
        refine pm_iald (y := zL_law_) dL_law__1377 (fun x215 => ?_)
        refine pm_aload_n dL_law__1378 rfl rfl ?_
        refine pm_kI (d := d + 49) rfl (pm_SX (y := zL_law_) (z := zL_argument) (As := [.ref l1, .int x214, .int x215, .ref l3]) zkL_argument tw_1222 tw_1223 dL_law__1379 rfl rfl (Nat.le_of_ble_eq_true rfl)) (kcL_argument (d := d + 45) hfl l1 x214 x215 l3 s23.2) (fun x217 m216 => ?_)
        refine pm_istore (ls2 := [.ref l0, .ref l1, .ref l2, .ref l3, .int s23.1, .int x217, pmU, pmU]) dL_law__1382 rfl (Nat.le_of_ble_eq_true rfl) rfl ?_
        refine pm_aload_n dL_law__1384 rfl rfl ?_
        refine pm_aload_n dL_law__1385 rfl rfl ?_
        refine pm_iload dL_law__1386 rfl ?_
        refine pm_iconst (v := 1) dL_law__1388 ki_1 ?_
        refine pm_iadd dL_law__1389 ?_
        refine pm_iald (y := zL_law_) dL_law__1390 (fun x218 => ?_)
        refine pm_aload_n dL_law__1391 rfl rfl ?_
        refine pm_iload dL_law__1392 rfl ?_
        refine pm_iconst (v := 2) dL_law__1394 ki_2 ?_
        refine pm_iadd dL_law__1395 ?_
        refine pm_iald (y := zL_law_) dL_law__1396 (fun x219 => ?_)
        refine pm_rcv (fun hb9 hc9 => ?_)
        refine pm_kI (d := d + 49) rfl (pm_V (y := zL_law_) (z := zX9_argument) (As := [.int x218, .int x219]) zkX9_argument pm_q9 (by decide) tw_1866 tw_1867 tw_1868 dL_law__1397 rfl rfl (Nat.le_of_ble_eq_true rfl) hb9 hc9) (kcX9_argument (d := d + 47) hfl l2 x218 x219 m216) (fun x221 m220 => ?_)
        refine pm_istore (ls2 := [.ref l0, .ref l1, .ref l2, .ref l3, .int s23.1, .int x217, .int x221, pmU]) dL_law__1400 rfl (Nat.le_of_ble_eq_true rfl) rfl ?_
        refine pm_aload_n dL_law__1402 rfl rfl ?_
        refine pm_rcv (fun hb9 hc9 => ?_)
        refine pm_kI (d := d + 49) rfl (pm_V (y := zL_law_) (z := zX9_thrown) (As := []) zkX9_thrown pm_q9 (by decide) tw_1533 tw_1534 tw_1535 dL_law__1403 rfl rfl (Nat.le_of_ble_eq_true rfl) hb9 hc9) (kcX9_thrown (d := d + 49) hfl l2 m220) (fun x223 m222 => ?_)
        refine pm_iload dL_law__1406 rfl ?_
        refine pm_icmp_eq (tgt := 1413) dL_law__1408 rfl ?_ ?_
        · refine pm_iload dL_law__1413 rfl ?_
          refine pm_if_ne (tgt := 1430) dL_law__1415 rfl ?_ ?_
          · refine pm_drop (ls2 := [.ref l0, .ref l1, .ref l2, .ref l3, .int s23.1, pmU, pmU, pmU]) (Nat.le_refl _) (pm_le_spec (pm_le_v (pm_le_v (pm_le_v (pm_le_v (pm_le_v (pm_le_u (pm_le_u (pm_le_u (pm_le_n)))))))))) ?_
            exact gL_law__j1430 hfl again23 l0 l1 l2 l3 s23.1 m222 hag23
          · refine pm_aload_n dL_law__1418 rfl rfl ?_
            refine pm_iconst (v := 0) dL_law__1419 ki_0 ?_
            refine pm_lald (y := zL_law_) dL_law__1420 (fun x224 => ?_)
            refine pm_iload dL_law__1421 rfl ?_
            refine pm_i2l dL_law__1423 ?_
            refine pm_lcmp dL_law__1424 ?_
            refine pm_if_eq (tgt := 1430) dL_law__1425 rfl ?_ ?_
            · refine pm_drop (ls2 := [.ref l0, .ref l1, .ref l2, .ref l3, .int s23.1, pmU, pmU, pmU]) (Nat.le_refl _) (pm_le_spec (pm_le_v (pm_le_v (pm_le_v (pm_le_v (pm_le_v (pm_le_u (pm_le_u (pm_le_u (pm_le_n)))))))))) ?_
              exact gL_law__j1430 hfl again23 l0 l1 l2 l3 s23.1 m222 hag23
            · refine pm_iconst (v := 0) dL_law__1428 ki_0 ?_
              exact pm_nret (ty := .boolean) (w := 0) rfl (by decide) (by decide) dL_law__1429
        · refine pm_iconst (v := 0) dL_law__1411 ki_0 ?_
          exact pm_nret (ty := .boolean) (w := 0) rfl (by decide) (by decide) dL_law__1412
      refine pm_case (c := (24 : Int32)) (fun h9 => ?_) (fun h9_24 => ?_)
      · refine pm_swIn (off := (1393)) (tgt := 1433) dL_law__40 (by rw [h9]; decide) (by rw [h9]; decide) (by rw [h9]; decide) (by decide) ?_
        refine pm_aload_n dL_law__1433 rfl rfl ?_
        refine pm_aload_n dL_law__1434 rfl rfl ?_
        refine pm_iload dL_law__1435 rfl ?_
        refine pm_iconst (v := 1) dL_law__1437 ki_1 ?_
        refine pm_iadd dL_law__1438 ?_
        refine pm_iald (y := zL_law_) dL_law__1439 (fun x225 => ?_)
        refine pm_aload_n dL_law__1440 rfl rfl ?_
        refine pm_iload dL_law__1441 rfl ?_
        refine pm_iconst (v := 2) dL_law__1443 ki_2 ?_
        refine pm_iadd dL_law__1444 ?_
        refine pm_iald (y := zL_law_) dL_law__1445 (fun x226 => ?_)
        refine pm_aload_n dL_law__1446 rfl rfl ?_
        refine pm_kI (d := d + 49) rfl (pm_SX (y := zL_law_) (z := zL_common) (As := [.ref l1, .int x225, .int x226, .ref l3]) zkL_common tw_1237 tw_1238 dL_law__1447 rfl rfl (Nat.le_of_ble_eq_true rfl)) (kcL_common (d := d + 44) hfl l1 x225 x226 l3 s23.2) (fun x228 m227 => ?_)
        refine pm_istore (ls2 := [.ref l0, .ref l1, .ref l2, .ref l3, .int s23.1, .int x228, pmU, pmU]) dL_law__1450 rfl (Nat.le_of_ble_eq_true rfl) rfl ?_
        refine pm_aload_n dL_law__1452 rfl rfl ?_
        refine pm_aload_n dL_law__1453 rfl rfl ?_
        refine pm_iload dL_law__1454 rfl ?_
        refine pm_iconst (v := 1) dL_law__1456 ki_1 ?_
        refine pm_iadd dL_law__1457 ?_
        refine pm_iald (y := zL_law_) dL_law__1458 (fun x229 => ?_)
        refine pm_aload_n dL_law__1459 rfl rfl ?_
        refine pm_iload dL_law__1460 rfl ?_
        refine pm_iconst (v := 2) dL_law__1462 ki_2 ?_
        refine pm_iadd dL_law__1463 ?_
        refine pm_iald (y := zL_law_) dL_law__1464 (fun x230 => ?_)
        refine pm_rcv (fun hb9 hc9 => ?_)
        refine pm_kI (d := d + 49) rfl (pm_V (y := zL_law_) (z := zX9_common) (As := [.int x229, .int x230]) zkX9_common pm_q9 (by decide) tw_1874 tw_1875 tw_1876 dL_law__1465 rfl rfl (Nat.le_of_ble_eq_true rfl) hb9 hc9) (kcX9_common (d := d + 47) hfl l2 x229 x230 m227) (fun x232 m231 => ?_)
        refine pm_istore (ls2 := [.ref l0, .ref l1, .ref l2, .ref l3, .int s23.1, .int x228, .int x232, pmU]) dL_law__1468 rfl (Nat.le_of_ble_eq_true rfl) rfl ?_
        refine pm_aload_n dL_law__1470 rfl rfl ?_
        refine pm_rcv (fun hb9 hc9 => ?_)
        refine pm_kI (d := d + 49) rfl (pm_V (y := zL_law_) (z := zX9_thrown) (As := []) zkX9_thrown pm_q9 (by decide) tw_1533 tw_1534 tw_1535 dL_law__1471 rfl rfl (Nat.le_of_ble_eq_true rfl) hb9 hc9) (kcX9_thrown (d := d + 49) hfl l2 m231) (fun x234 m233 => ?_)
        refine pm_iload dL_law__1474 rfl ?_
        refine pm_icmp_eq (tgt := 1481) dL_law__1476 rfl ?_ ?_
        · refine pm_iload dL_law__1481 rfl ?_
          refine pm_if_ne (tgt := 1498) dL_law__1483 rfl ?_ ?_
          · refine pm_drop (ls2 := [.ref l0, .ref l1, .ref l2, .ref l3, .int s23.1, pmU, pmU, pmU]) (Nat.le_refl _) (pm_le_spec (pm_le_v (pm_le_v (pm_le_v (pm_le_v (pm_le_v (pm_le_u (pm_le_u (pm_le_u (pm_le_n)))))))))) ?_
            exact gL_law__j1498 hfl again23 l0 l1 l2 l3 s23.1 m233 hag23
          · refine pm_aload_n dL_law__1486 rfl rfl ?_
            refine pm_iconst (v := 0) dL_law__1487 ki_0 ?_
            refine pm_lald (y := zL_law_) dL_law__1488 (fun x235 => ?_)
            refine pm_iload dL_law__1489 rfl ?_
            refine pm_i2l dL_law__1491 ?_
            refine pm_lcmp dL_law__1492 ?_
            refine pm_if_eq (tgt := 1498) dL_law__1493 rfl ?_ ?_
            · refine pm_drop (ls2 := [.ref l0, .ref l1, .ref l2, .ref l3, .int s23.1, pmU, pmU, pmU]) (Nat.le_refl _) (pm_le_spec (pm_le_v (pm_le_v (pm_le_v (pm_le_v (pm_le_v (pm_le_u (pm_le_u (pm_le_u (pm_le_n)))))))))) ?_
              exact gL_law__j1498 hfl again23 l0 l1 l2 l3 s23.1 m233 hag23
            · refine pm_iconst (v := 0) dL_law__1496 ki_0 ?_
              exact pm_nret (ty := .boolean) (w := 0) rfl (by decide) (by decide) dL_law__1497
        · refine pm_iconst (v := 0) dL_law__1479 ki_0 ?_
          exact pm_nret (ty := .boolean) (w := 0) rfl (by decide) (by decide) dL_law__1480
      refine pm_case (c := (25 : Int32)) (fun h9 => ?_) (fun h9_25 => ?_)
      · refine pm_swIn (off := (1461)) (tgt := 1501) dL_law__40 (by rw [h9]; decide) (by rw [h9]; decide) (by rw [h9]; decide) (by decide) ?_
        refine pm_aload_n dL_law__1501 rfl rfl ?_
        refine pm_rcv (fun hb9 hc9 => ?_)
        refine pm_kI (d := d + 49) rfl (pm_V (y := zL_law_) (z := zX8_apart) (As := []) zkX8_apart pm_q8 (by decide) tw_534 tw_535 tw_536 dL_law__1502 rfl rfl (Nat.le_of_ble_eq_true rfl) hb9 hc9) (kcX8_apart (d := d + 47) hfl l1 s23.2) (fun x237 m236 => ?_)
        refine pm_aload_n dL_law__1505 rfl rfl ?_
        refine pm_rcv (fun hb9 hc9 => ?_)
        refine pm_kI (d := d + 49) rfl (pm_V (y := zL_law_) (z := zX9_apart) (As := []) zkX9_apart pm_q9 (by decide) tw_1878 tw_1879 tw_1880 dL_law__1506 rfl rfl (Nat.le_of_ble_eq_true rfl) hb9 hc9) (kcX9_apart (d := d + 48) hfl l2 m236) (fun x239 m238 => ?_)
        refine pm_icmp_eq (tgt := 2232) dL_law__1509 rfl ?_ ?_
        · exact gL_law__j2232 hfl again23 l0 l1 l2 l3 s23.1 m238 hag23
        · refine pm_iconst (v := 0) dL_law__1512 ki_0 ?_
          exact pm_nret (ty := .boolean) (w := 0) rfl (by decide) (by decide) dL_law__1513
      refine pm_case (c := (26 : Int32)) (fun h9 => ?_) (fun h9_26 => ?_)
      · refine pm_swIn (off := (1474)) (tgt := 1514) dL_law__40 (by rw [h9]; decide) (by rw [h9]; decide) (by rw [h9]; decide) (by decide) ?_
        refine pm_aload_n dL_law__1514 rfl rfl ?_
        refine pm_rcv (fun hb9 hc9 => ?_)
        refine pm_kI (d := d + 49) rfl (pm_V (y := zL_law_) (z := zX8_mends) (As := []) zkX8_mends pm_q8 (by decide) tw_548 tw_549 tw_550 dL_law__1515 rfl rfl (Nat.le_of_ble_eq_true rfl) hb9 hc9) (kcX8_mends (d := d + 47) hfl l1 s23.2) (fun x241 m240 => ?_)
        refine pm_aload_n dL_law__1518 rfl rfl ?_
        refine pm_rcv (fun hb9 hc9 => ?_)
        refine pm_kI (d := d + 49) rfl (pm_V (y := zL_law_) (z := zX9_mends) (As := []) zkX9_mends pm_q9 (by decide) tw_1886 tw_1887 tw_1888 dL_law__1519 rfl rfl (Nat.le_of_ble_eq_true rfl) hb9 hc9) (kcX9_mends (d := d + 48) hfl l2 m240) (fun x243 m242 => ?_)
        refine pm_icmp_eq (tgt := 2232) dL_law__1522 rfl ?_ ?_
        · exact gL_law__j2232 hfl again23 l0 l1 l2 l3 s23.1 m242 hag23
        · refine pm_iconst (v := 0) dL_law__1525 ki_0 ?_
          exact pm_nret (ty := .boolean) (w := 0) rfl (by decide) (by decide) dL_law__1526
      refine pm_case (c := (27 : Int32)) (fun h9 => ?_) (fun h9_27 => ?_)
      · refine pm_swIn (off := (1487)) (tgt := 1527) dL_law__40 (by rw [h9]; decide) (by rw [h9]; decide) (by rw [h9]; decide) (by decide) ?_
        refine pm_aload_n dL_law__1527 rfl rfl ?_
        refine pm_aload_n dL_law__1528 rfl rfl ?_
        refine pm_iload dL_law__1529 rfl ?_
        refine pm_iconst (v := 1) dL_law__1531 ki_1 ?_
        refine pm_iadd dL_law__1532 ?_
        refine pm_iald (y := zL_law_) dL_law__1533 (fun x244 => ?_)
        refine pm_aload_n dL_law__1534 rfl rfl ?_
        refine pm_iload dL_law__1535 rfl ?_
        refine pm_iconst (v := 2) dL_law__1537 ki_2 ?_
        refine pm_iadd dL_law__1538 ?_
        refine pm_iald (y := zL_law_) dL_law__1539 (fun x245 => ?_)
        refine pm_aload_n dL_law__1540 rfl rfl ?_
        refine pm_iload dL_law__1541 rfl ?_
        refine pm_iconst (v := 3) dL_law__1543 ki_3 ?_
        refine pm_iadd dL_law__1544 ?_
        refine pm_iald (y := zL_law_) dL_law__1545 (fun x246 => ?_)
        refine pm_aload_n dL_law__1546 rfl rfl ?_
        refine pm_kI (d := d + 49) rfl (pm_SX (y := zL_law_) (z := zL_duel) (As := [.ref l1, .int x244, .int x245, .int x246, .ref l3]) zkL_duel tw_1253 tw_1254 dL_law__1547 rfl rfl (Nat.le_of_ble_eq_true rfl)) (kcL_duel (d := d + 46) hfl l1 x244 x245 x246 l3 s23.2) (fun x248 m247 => ?_)
        refine pm_istore (ls2 := [.ref l0, .ref l1, .ref l2, .ref l3, .int s23.1, .int x248, pmU, pmU]) dL_law__1550 rfl (Nat.le_of_ble_eq_true rfl) rfl ?_
        refine pm_aload_n dL_law__1552 rfl rfl ?_
        refine pm_aload_n dL_law__1553 rfl rfl ?_
        refine pm_iload dL_law__1554 rfl ?_
        refine pm_iconst (v := 1) dL_law__1556 ki_1 ?_
        refine pm_iadd dL_law__1557 ?_
        refine pm_iald (y := zL_law_) dL_law__1558 (fun x249 => ?_)
        refine pm_aload_n dL_law__1559 rfl rfl ?_
        refine pm_iload dL_law__1560 rfl ?_
        refine pm_iconst (v := 2) dL_law__1562 ki_2 ?_
        refine pm_iadd dL_law__1563 ?_
        refine pm_iald (y := zL_law_) dL_law__1564 (fun x250 => ?_)
        refine pm_aload_n dL_law__1565 rfl rfl ?_
        refine pm_iload dL_law__1566 rfl ?_
        refine pm_iconst (v := 3) dL_law__1568 ki_3 ?_
        refine pm_iadd dL_law__1569 ?_
        refine pm_iald (y := zL_law_) dL_law__1570 (fun x251 => ?_)
        refine pm_rcv (fun hb9 hc9 => ?_)
        refine pm_kI (d := d + 49) rfl (pm_V (y := zL_law_) (z := zX9_duel) (As := [.int x249, .int x250, .int x251]) zkX9_duel pm_q9 (by decide) tw_1890 tw_1891 tw_1892 dL_law__1571 rfl rfl (Nat.le_of_ble_eq_true rfl) hb9 hc9) (kcX9_duel (d := d + 47) hfl l2 x249 x250 x251 m247) (fun x253 m252 => ?_)
        refine pm_istore (ls2 := [.ref l0, .ref l1, .ref l2, .ref l3, .int s23.1, .int x248, .int x253, pmU]) dL_law__1574 rfl (Nat.le_of_ble_eq_true rfl) rfl ?_
        refine pm_aload_n dL_law__1576 rfl rfl ?_
        refine pm_rcv (fun hb9 hc9 => ?_)
        refine pm_kI (d := d + 49) rfl (pm_V (y := zL_law_) (z := zX9_thrown) (As := []) zkX9_thrown pm_q9 (by decide) tw_1533 tw_1534 tw_1535 dL_law__1577 rfl rfl (Nat.le_of_ble_eq_true rfl) hb9 hc9) (kcX9_thrown (d := d + 49) hfl l2 m252) (fun x255 m254 => ?_)
        refine pm_iload dL_law__1580 rfl ?_
        refine pm_icmp_eq (tgt := 1587) dL_law__1582 rfl ?_ ?_
        · refine pm_iload dL_law__1587 rfl ?_
          refine pm_if_ne (tgt := 1604) dL_law__1589 rfl ?_ ?_
          · refine pm_drop (ls2 := [.ref l0, .ref l1, .ref l2, .ref l3, .int s23.1, pmU, pmU, pmU]) (Nat.le_refl _) (pm_le_spec (pm_le_v (pm_le_v (pm_le_v (pm_le_v (pm_le_v (pm_le_u (pm_le_u (pm_le_u (pm_le_n)))))))))) ?_
            exact gL_law__j1604 hfl again23 l0 l1 l2 l3 s23.1 m254 hag23
          · refine pm_aload_n dL_law__1592 rfl rfl ?_
            refine pm_iconst (v := 0) dL_law__1593 ki_0 ?_
            refine pm_lald (y := zL_law_) dL_law__1594 (fun x256 => ?_)
            refine pm_iload dL_law__1595 rfl ?_
            refine pm_i2l dL_law__1597 ?_
            refine pm_lcmp dL_law__1598 ?_
            refine pm_if_eq (tgt := 1604) dL_law__1599 rfl ?_ ?_
            · refine pm_drop (ls2 := [.ref l0, .ref l1, .ref l2, .ref l3, .int s23.1, pmU, pmU, pmU]) (Nat.le_refl _) (pm_le_spec (pm_le_v (pm_le_v (pm_le_v (pm_le_v (pm_le_v (pm_le_u (pm_le_u (pm_le_u (pm_le_n)))))))))) ?_
              exact gL_law__j1604 hfl again23 l0 l1 l2 l3 s23.1 m254 hag23
            · refine pm_iconst (v := 0) dL_law__1602 ki_0 ?_
              exact pm_nret (ty := .boolean) (w := 0) rfl (by decide) (by decide) dL_law__1603
        · refine pm_iconst (v := 0) dL_law__1585 ki_0 ?_
          exact pm_nret (ty := .boolean) (w := 0) rfl (by decide) (by decide) dL_law__1586
      refine pm_case (c := (28 : Int32)) (fun h9 => ?_) (fun h9_28 => ?_)
      · refine pm_swIn (off := (1567)) (tgt := 1607) dL_law__40 (by rw [h9]; decide) (by rw [h9]; decide) (by rw [h9]; decide) (by decide) ?_
        refine pm_aload_n dL_law__1607 rfl rfl ?_
        refine pm_aload_n dL_law__1608 rfl rfl ?_
        refine pm_iload dL_law__1609 rfl ?_
        refine pm_iconst (v := 1) dL_law__1611 ki_1 ?_
        refine pm_iadd dL_law__1612 ?_
        refine pm_iald (y := zL_law_) dL_law__1613 (fun x257 => ?_)
        refine pm_aload_n dL_law__1614 rfl rfl ?_
        refine pm_iload dL_law__1615 rfl ?_
        refine pm_iconst (v := 2) dL_law__1617 ki_2 ?_
        refine pm_iadd dL_law__1618 ?_
        refine pm_iald (y := zL_law_) dL_law__1619 (fun x258 => ?_)
        refine pm_aload_n dL_law__1620 rfl rfl ?_
        refine pm_iload dL_law__1621 rfl ?_
        refine pm_iconst (v := 3) dL_law__1623 ki_3 ?_
        refine pm_iadd dL_law__1624 ?_
        refine pm_iald (y := zL_law_) dL_law__1625 (fun x259 => ?_)
        refine pm_aload_n dL_law__1626 rfl rfl ?_
        refine pm_iload dL_law__1627 rfl ?_
        refine pm_iconst (v := 4) dL_law__1629 ki_4 ?_
        refine pm_iadd dL_law__1630 ?_
        refine pm_iald (y := zL_law_) dL_law__1631 (fun x260 => ?_)
        refine pm_aload_n dL_law__1632 rfl rfl ?_
        refine pm_kI (d := d + 49) rfl (pm_SX (y := zL_law_) (z := zL_chance) (As := [.ref l1, .int x257, .int x258, .int x259, .int x260, .ref l3]) zkL_chance tw_1266 tw_1267 dL_law__1633 rfl rfl (Nat.le_of_ble_eq_true rfl)) (kcL_chance (d := d + 47) hfl l1 x257 x258 x259 x260 l3 s23.2) (fun x262 m261 => ?_)
        refine pm_istore (ls2 := [.ref l0, .ref l1, .ref l2, .ref l3, .int s23.1, .int x262, pmU, pmU]) dL_law__1636 rfl (Nat.le_of_ble_eq_true rfl) rfl ?_
        refine pm_aload_n dL_law__1638 rfl rfl ?_
        refine pm_aload_n dL_law__1639 rfl rfl ?_
        refine pm_iload dL_law__1640 rfl ?_
        refine pm_iconst (v := 1) dL_law__1642 ki_1 ?_
        refine pm_iadd dL_law__1643 ?_
        refine pm_iald (y := zL_law_) dL_law__1644 (fun x263 => ?_)
        refine pm_aload_n dL_law__1645 rfl rfl ?_
        refine pm_iload dL_law__1646 rfl ?_
        refine pm_iconst (v := 2) dL_law__1648 ki_2 ?_
        refine pm_iadd dL_law__1649 ?_
        refine pm_iald (y := zL_law_) dL_law__1650 (fun x264 => ?_)
        refine pm_aload_n dL_law__1651 rfl rfl ?_
        refine pm_iload dL_law__1652 rfl ?_
        refine pm_iconst (v := 3) dL_law__1654 ki_3 ?_
        refine pm_iadd dL_law__1655 ?_
        refine pm_iald (y := zL_law_) dL_law__1656 (fun x265 => ?_)
        refine pm_aload_n dL_law__1657 rfl rfl ?_
        refine pm_iload dL_law__1658 rfl ?_
        refine pm_iconst (v := 4) dL_law__1660 ki_4 ?_
        refine pm_iadd dL_law__1661 ?_
        refine pm_iald (y := zL_law_) dL_law__1662 (fun x266 => ?_)
        refine pm_rcv (fun hb9 hc9 => ?_)
        refine pm_kL (d := d + 49) rfl (pm_V (y := zL_law_) (z := zX9_chance) (As := [.int x263, .int x264, .int x265, .int x266]) zkX9_chance pm_q9 (by decide) tw_1900 tw_1901 tw_1902 dL_law__1663 rfl rfl (Nat.le_of_ble_eq_true rfl) hb9 hc9) (kcX9_chance (d := d + 48) hfl l2 x263 x264 x265 x266 m261) (fun x268 m267 => ?_)
        refine pm_lstore (ls2 := [.ref l0, .ref l1, .ref l2, .ref l3, .int s23.1, .int x262, .long x268, pmU]) dL_law__1666 rfl (Nat.le_of_ble_eq_true rfl) rfl ?_
        refine pm_aload_n dL_law__1668 rfl rfl ?_
        refine pm_rcv (fun hb9 hc9 => ?_)
        refine pm_kI (d := d + 49) rfl (pm_V (y := zL_law_) (z := zX9_thrown) (As := []) zkX9_thrown pm_q9 (by decide) tw_1533 tw_1534 tw_1535 dL_law__1669 rfl rfl (Nat.le_of_ble_eq_true rfl) hb9 hc9) (kcX9_thrown (d := d + 49) hfl l2 m267) (fun x270 m269 => ?_)
        refine pm_iload dL_law__1672 rfl ?_
        refine pm_icmp_eq (tgt := 1679) dL_law__1674 rfl ?_ ?_
        · refine pm_iload dL_law__1679 rfl ?_
          refine pm_if_ne (tgt := 1695) dL_law__1681 rfl ?_ ?_
          · refine pm_drop (ls2 := [.ref l0, .ref l1, .ref l2, .ref l3, .int s23.1, pmU, pmU, pmU]) (Nat.le_refl _) (pm_le_spec (pm_le_v (pm_le_v (pm_le_v (pm_le_v (pm_le_v (pm_le_u (pm_le_u (pm_le_u (pm_le_n)))))))))) ?_
            exact gL_law__j1695 hfl again23 l0 l1 l2 l3 s23.1 m269 hag23
          · refine pm_aload_n dL_law__1684 rfl rfl ?_
            refine pm_iconst (v := 0) dL_law__1685 ki_0 ?_
            refine pm_lald (y := zL_law_) dL_law__1686 (fun x271 => ?_)
            refine pm_lload dL_law__1687 rfl ?_
            refine pm_lcmp dL_law__1689 ?_
            refine pm_if_eq (tgt := 1695) dL_law__1690 rfl ?_ ?_
            · refine pm_drop (ls2 := [.ref l0, .ref l1, .ref l2, .ref l3, .int s23.1, pmU, pmU, pmU]) (Nat.le_refl _) (pm_le_spec (pm_le_v (pm_le_v (pm_le_v (pm_le_v (pm_le_v (pm_le_u (pm_le_u (pm_le_u (pm_le_n)))))))))) ?_
              exact gL_law__j1695 hfl again23 l0 l1 l2 l3 s23.1 m269 hag23
            · refine pm_iconst (v := 0) dL_law__1693 ki_0 ?_
              exact pm_nret (ty := .boolean) (w := 0) rfl (by decide) (by decide) dL_law__1694
        · refine pm_iconst (v := 0) dL_law__1677 ki_0 ?_
          exact pm_nret (ty := .boolean) (w := 0) rfl (by decide) (by decide) dL_law__1678
      refine pm_case (c := (29 : Int32)) (fun h9 => ?_) (fun h9_29 => ?_)
      · refine pm_swIn (off := (1658)) (tgt := 1698) dL_law__40 (by rw [h9]; decide) (by rw [h9]; decide) (by rw [h9]; decide) (by decide) ?_
        refine pm_aload_n dL_law__1698 rfl rfl ?_
        refine pm_aload_n dL_law__1699 rfl rfl ?_
        refine pm_iload dL_law__1700 rfl ?_
        refine pm_iconst (v := 1) dL_law__1702 ki_1 ?_
        refine pm_iadd dL_law__1703 ?_
        refine pm_iald (y := zL_law_) dL_law__1704 (fun x272 => ?_)
        refine pm_aload_n dL_law__1705 rfl rfl ?_
        refine pm_iload dL_law__1706 rfl ?_
        refine pm_iconst (v := 2) dL_law__1708 ki_2 ?_
        refine pm_iadd dL_law__1709 ?_
        refine pm_iald (y := zL_law_) dL_law__1710 (fun x273 => ?_)
        refine pm_aload_n dL_law__1711 rfl rfl ?_
        refine pm_iload dL_law__1712 rfl ?_
        refine pm_iconst (v := 3) dL_law__1714 ki_3 ?_
        refine pm_iadd dL_law__1715 ?_
        refine pm_iald (y := zL_law_) dL_law__1716 (fun x274 => ?_)
        refine pm_aload_n dL_law__1717 rfl rfl ?_
        refine pm_kI (d := d + 49) rfl (pm_SX (y := zL_law_) (z := zL_share) (As := [.ref l1, .int x272, .int x273, .int x274, .ref l3]) zkL_share tw_1277 tw_1278 dL_law__1718 rfl rfl (Nat.le_of_ble_eq_true rfl)) (kcL_share (d := d + 45) hfl l1 x272 x273 x274 l3 s23.2) (fun x276 m275 => ?_)
        refine pm_istore (ls2 := [.ref l0, .ref l1, .ref l2, .ref l3, .int s23.1, .int x276, pmU, pmU]) dL_law__1721 rfl (Nat.le_of_ble_eq_true rfl) rfl ?_
        refine pm_aload_n dL_law__1723 rfl rfl ?_
        refine pm_aload_n dL_law__1724 rfl rfl ?_
        refine pm_iload dL_law__1725 rfl ?_
        refine pm_iconst (v := 1) dL_law__1727 ki_1 ?_
        refine pm_iadd dL_law__1728 ?_
        refine pm_iald (y := zL_law_) dL_law__1729 (fun x277 => ?_)
        refine pm_aload_n dL_law__1730 rfl rfl ?_
        refine pm_iload dL_law__1731 rfl ?_
        refine pm_iconst (v := 2) dL_law__1733 ki_2 ?_
        refine pm_iadd dL_law__1734 ?_
        refine pm_iald (y := zL_law_) dL_law__1735 (fun x278 => ?_)
        refine pm_aload_n dL_law__1736 rfl rfl ?_
        refine pm_iload dL_law__1737 rfl ?_
        refine pm_iconst (v := 3) dL_law__1739 ki_3 ?_
        refine pm_iadd dL_law__1740 ?_
        refine pm_iald (y := zL_law_) dL_law__1741 (fun x279 => ?_)
        refine pm_rcv (fun hb9 hc9 => ?_)
        refine pm_kI (d := d + 49) rfl (pm_V (y := zL_law_) (z := zX9_share) (As := [.int x277, .int x278, .int x279]) zkX9_share pm_q9 (by decide) tw_1904 tw_1905 tw_1906 dL_law__1742 rfl rfl (Nat.le_of_ble_eq_true rfl) hb9 hc9) (kcX9_share (d := d + 46) hfl l2 x277 x278 x279 m275) (fun x281 m280 => ?_)
        refine pm_istore (ls2 := [.ref l0, .ref l1, .ref l2, .ref l3, .int s23.1, .int x276, .int x281, pmU]) dL_law__1745 rfl (Nat.le_of_ble_eq_true rfl) rfl ?_
        refine pm_aload_n dL_law__1747 rfl rfl ?_
        refine pm_rcv (fun hb9 hc9 => ?_)
        refine pm_kI (d := d + 49) rfl (pm_V (y := zL_law_) (z := zX9_thrown) (As := []) zkX9_thrown pm_q9 (by decide) tw_1533 tw_1534 tw_1535 dL_law__1748 rfl rfl (Nat.le_of_ble_eq_true rfl) hb9 hc9) (kcX9_thrown (d := d + 49) hfl l2 m280) (fun x283 m282 => ?_)
        refine pm_iload dL_law__1751 rfl ?_
        refine pm_icmp_eq (tgt := 1758) dL_law__1753 rfl ?_ ?_
        · refine pm_iload dL_law__1758 rfl ?_
          refine pm_if_ne (tgt := 1775) dL_law__1760 rfl ?_ ?_
          · refine pm_drop (ls2 := [.ref l0, .ref l1, .ref l2, .ref l3, .int s23.1, pmU, pmU, pmU]) (Nat.le_refl _) (pm_le_spec (pm_le_v (pm_le_v (pm_le_v (pm_le_v (pm_le_v (pm_le_u (pm_le_u (pm_le_u (pm_le_n)))))))))) ?_
            exact gL_law__j1775 hfl again23 l0 l1 l2 l3 s23.1 m282 hag23
          · refine pm_aload_n dL_law__1763 rfl rfl ?_
            refine pm_iconst (v := 0) dL_law__1764 ki_0 ?_
            refine pm_lald (y := zL_law_) dL_law__1765 (fun x284 => ?_)
            refine pm_iload dL_law__1766 rfl ?_
            refine pm_i2l dL_law__1768 ?_
            refine pm_lcmp dL_law__1769 ?_
            refine pm_if_eq (tgt := 1775) dL_law__1770 rfl ?_ ?_
            · refine pm_drop (ls2 := [.ref l0, .ref l1, .ref l2, .ref l3, .int s23.1, pmU, pmU, pmU]) (Nat.le_refl _) (pm_le_spec (pm_le_v (pm_le_v (pm_le_v (pm_le_v (pm_le_v (pm_le_u (pm_le_u (pm_le_u (pm_le_n)))))))))) ?_
              exact gL_law__j1775 hfl again23 l0 l1 l2 l3 s23.1 m282 hag23
            · refine pm_iconst (v := 0) dL_law__1773 ki_0 ?_
              exact pm_nret (ty := .boolean) (w := 0) rfl (by decide) (by decide) dL_law__1774
        · refine pm_iconst (v := 0) dL_law__1756 ki_0 ?_
          exact pm_nret (ty := .boolean) (w := 0) rfl (by decide) (by decide) dL_law__1757
      refine pm_case (c := (30 : Int32)) (fun h9 => ?_) (fun h9_30 => ?_)
      · refine pm_swIn (off := (1738)) (tgt := 1778) dL_law__40 (by rw [h9]; decide) (by rw [h9]; decide) (by rw [h9]; decide) (by decide) ?_
        refine pm_aload_n dL_law__1778 rfl rfl ?_
        refine pm_aload_n dL_law__1779 rfl rfl ?_
        refine pm_iload dL_law__1780 rfl ?_
        refine pm_iconst (v := 1) dL_law__1782 ki_1 ?_
        refine pm_iadd dL_law__1783 ?_
        refine pm_iald (y := zL_law_) dL_law__1784 (fun x285 => ?_)
        refine pm_aload_n dL_law__1785 rfl rfl ?_
        refine pm_kI (d := d + 49) rfl (pm_SX (y := zL_law_) (z := zL_often) (As := [.ref l1, .int x285, .ref l3]) zkL_often tw_1289 tw_1290 dL_law__1786 rfl rfl (Nat.le_of_ble_eq_true rfl)) (kcL_often (d := d + 45) hfl l1 x285 l3 s23.2) (fun x287 m286 => ?_)
        refine pm_istore (ls2 := [.ref l0, .ref l1, .ref l2, .ref l3, .int s23.1, .int x287, pmU, pmU]) dL_law__1789 rfl (Nat.le_of_ble_eq_true rfl) rfl ?_
        refine pm_aload_n dL_law__1791 rfl rfl ?_
        refine pm_aload_n dL_law__1792 rfl rfl ?_
        refine pm_iload dL_law__1793 rfl ?_
        refine pm_iconst (v := 1) dL_law__1795 ki_1 ?_
        refine pm_iadd dL_law__1796 ?_
        refine pm_iald (y := zL_law_) dL_law__1797 (fun x288 => ?_)
        refine pm_rcv (fun hb9 hc9 => ?_)
        refine pm_kI (d := d + 49) rfl (pm_V (y := zL_law_) (z := zX9_often) (As := [.int x288]) zkX9_often pm_q9 (by decide) tw_1912 tw_1913 tw_1914 dL_law__1798 rfl rfl (Nat.le_of_ble_eq_true rfl) hb9 hc9) (kcX9_often (d := d + 48) hfl l2 x288 m286) (fun x290 m289 => ?_)
        refine pm_istore (ls2 := [.ref l0, .ref l1, .ref l2, .ref l3, .int s23.1, .int x287, .int x290, pmU]) dL_law__1801 rfl (Nat.le_of_ble_eq_true rfl) rfl ?_
        refine pm_aload_n dL_law__1803 rfl rfl ?_
        refine pm_rcv (fun hb9 hc9 => ?_)
        refine pm_kI (d := d + 49) rfl (pm_V (y := zL_law_) (z := zX9_thrown) (As := []) zkX9_thrown pm_q9 (by decide) tw_1533 tw_1534 tw_1535 dL_law__1804 rfl rfl (Nat.le_of_ble_eq_true rfl) hb9 hc9) (kcX9_thrown (d := d + 49) hfl l2 m289) (fun x292 m291 => ?_)
        refine pm_iload dL_law__1807 rfl ?_
        refine pm_icmp_eq (tgt := 1814) dL_law__1809 rfl ?_ ?_
        · refine pm_iload dL_law__1814 rfl ?_
          refine pm_if_ne (tgt := 1831) dL_law__1816 rfl ?_ ?_
          · refine pm_drop (ls2 := [.ref l0, .ref l1, .ref l2, .ref l3, .int s23.1, pmU, pmU, pmU]) (Nat.le_refl _) (pm_le_spec (pm_le_v (pm_le_v (pm_le_v (pm_le_v (pm_le_v (pm_le_u (pm_le_u (pm_le_u (pm_le_n)))))))))) ?_
            exact gL_law__j1831 hfl again23 l0 l1 l2 l3 s23.1 m291 hag23
          · refine pm_aload_n dL_law__1819 rfl rfl ?_
            refine pm_iconst (v := 0) dL_law__1820 ki_0 ?_
            refine pm_lald (y := zL_law_) dL_law__1821 (fun x293 => ?_)
            refine pm_iload dL_law__1822 rfl ?_
            refine pm_i2l dL_law__1824 ?_
            refine pm_lcmp dL_law__1825 ?_
            refine pm_if_eq (tgt := 1831) dL_law__1826 rfl ?_ ?_
            · refine pm_drop (ls2 := [.ref l0, .ref l1, .ref l2, .ref l3, .int s23.1, pmU, pmU, pmU]) (Nat.le_refl _) (pm_le_spec (pm_le_v (pm_le_v (pm_le_v (pm_le_v (pm_le_v (pm_le_u (pm_le_u (pm_le_u (pm_le_n)))))))))) ?_
              exact gL_law__j1831 hfl again23 l0 l1 l2 l3 s23.1 m291 hag23
            · refine pm_iconst (v := 0) dL_law__1829 ki_0 ?_
              exact pm_nret (ty := .boolean) (w := 0) rfl (by decide) (by decide) dL_law__1830
        · refine pm_iconst (v := 0) dL_law__1812 ki_0 ?_
          exact pm_nret (ty := .boolean) (w := 0) rfl (by decide) (by decide) dL_law__1813
      refine pm_case (c := (31 : Int32)) (fun h9 => ?_) (fun h9_31 => ?_)
      · refine pm_swIn (off := (1794)) (tgt := 1834) dL_law__40 (by rw [h9]; decide) (by rw [h9]; decide) (by rw [h9]; decide) (by decide) ?_
        refine pm_aload_n dL_law__1834 rfl rfl ?_
        refine pm_aload_n dL_law__1835 rfl rfl ?_
        refine pm_iload dL_law__1836 rfl ?_
        refine pm_iconst (v := 1) dL_law__1838 ki_1 ?_
        refine pm_iadd dL_law__1839 ?_
        refine pm_iald (y := zL_law_) dL_law__1840 (fun x294 => ?_)
        refine pm_aload_n dL_law__1841 rfl rfl ?_
        refine pm_kI (d := d + 49) rfl (pm_SX (y := zL_law_) (z := zL_deeds) (As := [.ref l1, .int x294, .ref l3]) zkL_deeds tw_1300 tw_1301 dL_law__1842 rfl rfl (Nat.le_of_ble_eq_true rfl)) (kcL_deeds (d := d + 45) hfl l1 x294 l3 s23.2) (fun x296 m295 => ?_)
        refine pm_istore (ls2 := [.ref l0, .ref l1, .ref l2, .ref l3, .int s23.1, .int x296, pmU, pmU]) dL_law__1845 rfl (Nat.le_of_ble_eq_true rfl) rfl ?_
        refine pm_aload_n dL_law__1847 rfl rfl ?_
        refine pm_aload_n dL_law__1848 rfl rfl ?_
        refine pm_iload dL_law__1849 rfl ?_
        refine pm_iconst (v := 1) dL_law__1851 ki_1 ?_
        refine pm_iadd dL_law__1852 ?_
        refine pm_iald (y := zL_law_) dL_law__1853 (fun x297 => ?_)
        refine pm_rcv (fun hb9 hc9 => ?_)
        refine pm_kI (d := d + 49) rfl (pm_V (y := zL_law_) (z := zX9_deeds) (As := [.int x297]) zkX9_deeds pm_q9 (by decide) tw_1916 tw_1917 tw_1918 dL_law__1854 rfl rfl (Nat.le_of_ble_eq_true rfl) hb9 hc9) (kcX9_deeds (d := d + 47) hfl l2 x297 m295) (fun x299 m298 => ?_)
        refine pm_istore (ls2 := [.ref l0, .ref l1, .ref l2, .ref l3, .int s23.1, .int x296, .int x299, pmU]) dL_law__1857 rfl (Nat.le_of_ble_eq_true rfl) rfl ?_
        refine pm_aload_n dL_law__1859 rfl rfl ?_
        refine pm_rcv (fun hb9 hc9 => ?_)
        refine pm_kI (d := d + 49) rfl (pm_V (y := zL_law_) (z := zX9_thrown) (As := []) zkX9_thrown pm_q9 (by decide) tw_1533 tw_1534 tw_1535 dL_law__1860 rfl rfl (Nat.le_of_ble_eq_true rfl) hb9 hc9) (kcX9_thrown (d := d + 49) hfl l2 m298) (fun x301 m300 => ?_)
        refine pm_iload dL_law__1863 rfl ?_
        refine pm_icmp_eq (tgt := 1870) dL_law__1865 rfl ?_ ?_
        · refine pm_iload dL_law__1870 rfl ?_
          refine pm_if_ne (tgt := 1887) dL_law__1872 rfl ?_ ?_
          · refine pm_drop (ls2 := [.ref l0, .ref l1, .ref l2, .ref l3, .int s23.1, pmU, pmU, pmU]) (Nat.le_refl _) (pm_le_spec (pm_le_v (pm_le_v (pm_le_v (pm_le_v (pm_le_v (pm_le_u (pm_le_u (pm_le_u (pm_le_n)))))))))) ?_
            exact gL_law__j1887 hfl again23 l0 l1 l2 l3 s23.1 m300 hag23
          · refine pm_aload_n dL_law__1875 rfl rfl ?_
            refine pm_iconst (v := 0) dL_law__1876 ki_0 ?_
            refine pm_lald (y := zL_law_) dL_law__1877 (fun x302 => ?_)
            refine pm_iload dL_law__1878 rfl ?_
            refine pm_i2l dL_law__1880 ?_
            refine pm_lcmp dL_law__1881 ?_
            refine pm_if_eq (tgt := 1887) dL_law__1882 rfl ?_ ?_
            · refine pm_drop (ls2 := [.ref l0, .ref l1, .ref l2, .ref l3, .int s23.1, pmU, pmU, pmU]) (Nat.le_refl _) (pm_le_spec (pm_le_v (pm_le_v (pm_le_v (pm_le_v (pm_le_v (pm_le_u (pm_le_u (pm_le_u (pm_le_n)))))))))) ?_
              exact gL_law__j1887 hfl again23 l0 l1 l2 l3 s23.1 m300 hag23
            · refine pm_iconst (v := 0) dL_law__1885 ki_0 ?_
              exact pm_nret (ty := .boolean) (w := 0) rfl (by decide) (by decide) dL_law__1886
        · refine pm_iconst (v := 0) dL_law__1868 ki_0 ?_
          exact pm_nret (ty := .boolean) (w := 0) rfl (by decide) (by decide) dL_law__1869
      refine pm_case (c := (32 : Int32)) (fun h9 => ?_) (fun h9_32 => ?_)
      · refine pm_swIn (off := (1850)) (tgt := 1890) dL_law__40 (by rw [h9]; decide) (by rw [h9]; decide) (by rw [h9]; decide) (by decide) ?_
        refine pm_aload_n dL_law__1890 rfl rfl ?_
        refine pm_aload_n dL_law__1891 rfl rfl ?_
        refine pm_iload dL_law__1892 rfl ?_
        refine pm_iconst (v := 1) dL_law__1894 ki_1 ?_
        refine pm_iadd dL_law__1895 ?_
        refine pm_iald (y := zL_law_) dL_law__1896 (fun x303 => ?_)
        refine pm_aload_n dL_law__1897 rfl rfl ?_
        refine pm_kI (d := d + 49) rfl (pm_SX (y := zL_law_) (z := zL_longest) (As := [.ref l1, .int x303, .ref l3]) zkL_longest tw_1307 tw_1308 dL_law__1898 rfl rfl (Nat.le_of_ble_eq_true rfl)) (kcL_longest (d := d + 46) hfl l1 x303 l3 s23.2) (fun x305 m304 => ?_)
        refine pm_istore (ls2 := [.ref l0, .ref l1, .ref l2, .ref l3, .int s23.1, .int x305, pmU, pmU]) dL_law__1901 rfl (Nat.le_of_ble_eq_true rfl) rfl ?_
        refine pm_aload_n dL_law__1903 rfl rfl ?_
        refine pm_aload_n dL_law__1904 rfl rfl ?_
        refine pm_iload dL_law__1905 rfl ?_
        refine pm_iconst (v := 1) dL_law__1907 ki_1 ?_
        refine pm_iadd dL_law__1908 ?_
        refine pm_iald (y := zL_law_) dL_law__1909 (fun x306 => ?_)
        refine pm_rcv (fun hb9 hc9 => ?_)
        refine pm_kI (d := d + 49) rfl (pm_V (y := zL_law_) (z := zX9_longest) (As := [.int x306]) zkX9_longest pm_q9 (by decide) tw_1920 tw_1921 tw_1922 dL_law__1910 rfl rfl (Nat.le_of_ble_eq_true rfl) hb9 hc9) (kcX9_longest (d := d + 47) hfl l2 x306 m304) (fun x308 m307 => ?_)
        refine pm_istore (ls2 := [.ref l0, .ref l1, .ref l2, .ref l3, .int s23.1, .int x305, .int x308, pmU]) dL_law__1913 rfl (Nat.le_of_ble_eq_true rfl) rfl ?_
        refine pm_aload_n dL_law__1915 rfl rfl ?_
        refine pm_rcv (fun hb9 hc9 => ?_)
        refine pm_kI (d := d + 49) rfl (pm_V (y := zL_law_) (z := zX9_thrown) (As := []) zkX9_thrown pm_q9 (by decide) tw_1533 tw_1534 tw_1535 dL_law__1916 rfl rfl (Nat.le_of_ble_eq_true rfl) hb9 hc9) (kcX9_thrown (d := d + 49) hfl l2 m307) (fun x310 m309 => ?_)
        refine pm_iload dL_law__1919 rfl ?_
        refine pm_icmp_eq (tgt := 1926) dL_law__1921 rfl ?_ ?_
        · refine pm_iload dL_law__1926 rfl ?_
          refine pm_if_ne (tgt := 1943) dL_law__1928 rfl ?_ ?_
          · refine pm_drop (ls2 := [.ref l0, .ref l1, .ref l2, .ref l3, .int s23.1, pmU, pmU, pmU]) (Nat.le_refl _) (pm_le_spec (pm_le_v (pm_le_v (pm_le_v (pm_le_v (pm_le_v (pm_le_u (pm_le_u (pm_le_u (pm_le_n)))))))))) ?_
            exact gL_law__j1943 hfl again23 l0 l1 l2 l3 s23.1 m309 hag23
          · refine pm_aload_n dL_law__1931 rfl rfl ?_
            refine pm_iconst (v := 0) dL_law__1932 ki_0 ?_
            refine pm_lald (y := zL_law_) dL_law__1933 (fun x311 => ?_)
            refine pm_iload dL_law__1934 rfl ?_
            refine pm_i2l dL_law__1936 ?_
            refine pm_lcmp dL_law__1937 ?_
            refine pm_if_eq (tgt := 1943) dL_law__1938 rfl ?_ ?_
            · refine pm_drop (ls2 := [.ref l0, .ref l1, .ref l2, .ref l3, .int s23.1, pmU, pmU, pmU]) (Nat.le_refl _) (pm_le_spec (pm_le_v (pm_le_v (pm_le_v (pm_le_v (pm_le_v (pm_le_u (pm_le_u (pm_le_u (pm_le_n)))))))))) ?_
              exact gL_law__j1943 hfl again23 l0 l1 l2 l3 s23.1 m309 hag23
            · refine pm_iconst (v := 0) dL_law__1941 ki_0 ?_
              exact pm_nret (ty := .boolean) (w := 0) rfl (by decide) (by decide) dL_law__1942
        · refine pm_iconst (v := 0) dL_law__1924 ki_0 ?_
          exact pm_nret (ty := .boolean) (w := 0) rfl (by decide) (by decide) dL_law__1925
      refine pm_case (c := (33 : Int32)) (fun h9 => ?_) (fun h9_33 => ?_)
      · refine pm_swIn (off := (1906)) (tgt := 1946) dL_law__40 (by rw [h9]; decide) (by rw [h9]; decide) (by rw [h9]; decide) (by decide) ?_
        refine pm_aload_n dL_law__1946 rfl rfl ?_
        refine pm_aload_n dL_law__1947 rfl rfl ?_
        refine pm_iload dL_law__1948 rfl ?_
        refine pm_iconst (v := 1) dL_law__1950 ki_1 ?_
        refine pm_iadd dL_law__1951 ?_
        refine pm_iald (y := zL_law_) dL_law__1952 (fun x312 => ?_)
        refine pm_aload_n dL_law__1953 rfl rfl ?_
        refine pm_iload dL_law__1954 rfl ?_
        refine pm_iconst (v := 2) dL_law__1956 ki_2 ?_
        refine pm_iadd dL_law__1957 ?_
        refine pm_iald (y := zL_law_) dL_law__1958 (fun x313 => ?_)
        refine pm_aload_n dL_law__1959 rfl rfl ?_
        refine pm_iload dL_law__1960 rfl ?_
        refine pm_iconst (v := 3) dL_law__1962 ki_3 ?_
        refine pm_iadd dL_law__1963 ?_
        refine pm_iald (y := zL_law_) dL_law__1964 (fun x314 => ?_)
        refine pm_aload_n dL_law__1965 rfl rfl ?_
        refine pm_iload dL_law__1966 rfl ?_
        refine pm_iconst (v := 4) dL_law__1968 ki_4 ?_
        refine pm_iadd dL_law__1969 ?_
        refine pm_iald (y := zL_law_) dL_law__1970 (fun x315 => ?_)
        refine pm_aload_n dL_law__1971 rfl rfl ?_
        refine pm_kI (d := d + 49) rfl (pm_SX (y := zL_law_) (z := zL_hand) (As := [.ref l1, .int x312, .int x313, .int x314, .int x315, .ref l3]) zkL_hand tw_1314 tw_1315 dL_law__1972 rfl rfl (Nat.le_of_ble_eq_true rfl)) (kcL_hand (d := d + 43) hfl l1 x312 x313 x314 x315 l3 s23.2) (fun x317 m316 => ?_)
        refine pm_istore (ls2 := [.ref l0, .ref l1, .ref l2, .ref l3, .int s23.1, .int x317, pmU, pmU]) dL_law__1975 rfl (Nat.le_of_ble_eq_true rfl) rfl ?_
        refine pm_aload_n dL_law__1977 rfl rfl ?_
        refine pm_aload_n dL_law__1978 rfl rfl ?_
        refine pm_iload dL_law__1979 rfl ?_
        refine pm_iconst (v := 1) dL_law__1981 ki_1 ?_
        refine pm_iadd dL_law__1982 ?_
        refine pm_iald (y := zL_law_) dL_law__1983 (fun x318 => ?_)
        refine pm_aload_n dL_law__1984 rfl rfl ?_
        refine pm_iload dL_law__1985 rfl ?_
        refine pm_iconst (v := 2) dL_law__1987 ki_2 ?_
        refine pm_iadd dL_law__1988 ?_
        refine pm_iald (y := zL_law_) dL_law__1989 (fun x319 => ?_)
        refine pm_aload_n dL_law__1990 rfl rfl ?_
        refine pm_iload dL_law__1991 rfl ?_
        refine pm_iconst (v := 3) dL_law__1993 ki_3 ?_
        refine pm_iadd dL_law__1994 ?_
        refine pm_iald (y := zL_law_) dL_law__1995 (fun x320 => ?_)
        refine pm_aload_n dL_law__1996 rfl rfl ?_
        refine pm_iload dL_law__1997 rfl ?_
        refine pm_iconst (v := 4) dL_law__1999 ki_4 ?_
        refine pm_iadd dL_law__2000 ?_
        refine pm_iald (y := zL_law_) dL_law__2001 (fun x321 => ?_)
        refine pm_rcv (fun hb9 hc9 => ?_)
        refine pm_kI (d := d + 49) rfl (pm_V (y := zL_law_) (z := zX9_hand) (As := [.int x318, .int x319, .int x320, .int x321]) zkX9_hand pm_q9 (by decide) tw_1924 tw_1925 tw_1926 dL_law__2002 rfl rfl (Nat.le_of_ble_eq_true rfl) hb9 hc9) (kcX9_hand (d := d + 42) hfl l2 x318 x319 x320 x321 m316) (fun x323 m322 => ?_)
        refine pm_istore (ls2 := [.ref l0, .ref l1, .ref l2, .ref l3, .int s23.1, .int x317, .int x323, pmU]) dL_law__2005 rfl (Nat.le_of_ble_eq_true rfl) rfl ?_
        refine pm_aload_n dL_law__2007 rfl rfl ?_
        refine pm_rcv (fun hb9 hc9 => ?_)
        refine pm_kI (d := d + 49) rfl (pm_V (y := zL_law_) (z := zX9_thrown) (As := []) zkX9_thrown pm_q9 (by decide) tw_1533 tw_1534 tw_1535 dL_law__2008 rfl rfl (Nat.le_of_ble_eq_true rfl) hb9 hc9) (kcX9_thrown (d := d + 49) hfl l2 m322) (fun x325 m324 => ?_)
        refine pm_iload dL_law__2011 rfl ?_
        refine pm_icmp_eq (tgt := 2018) dL_law__2013 rfl ?_ ?_
        · refine pm_iload dL_law__2018 rfl ?_
          refine pm_if_ne (tgt := 2035) dL_law__2020 rfl ?_ ?_
          · refine pm_drop (ls2 := [.ref l0, .ref l1, .ref l2, .ref l3, .int s23.1, pmU, pmU, pmU]) (Nat.le_refl _) (pm_le_spec (pm_le_v (pm_le_v (pm_le_v (pm_le_v (pm_le_v (pm_le_u (pm_le_u (pm_le_u (pm_le_n)))))))))) ?_
            exact gL_law__j2035 hfl again23 l0 l1 l2 l3 s23.1 m324 hag23
          · refine pm_aload_n dL_law__2023 rfl rfl ?_
            refine pm_iconst (v := 0) dL_law__2024 ki_0 ?_
            refine pm_lald (y := zL_law_) dL_law__2025 (fun x326 => ?_)
            refine pm_iload dL_law__2026 rfl ?_
            refine pm_i2l dL_law__2028 ?_
            refine pm_lcmp dL_law__2029 ?_
            refine pm_if_eq (tgt := 2035) dL_law__2030 rfl ?_ ?_
            · refine pm_drop (ls2 := [.ref l0, .ref l1, .ref l2, .ref l3, .int s23.1, pmU, pmU, pmU]) (Nat.le_refl _) (pm_le_spec (pm_le_v (pm_le_v (pm_le_v (pm_le_v (pm_le_v (pm_le_u (pm_le_u (pm_le_u (pm_le_n)))))))))) ?_
              exact gL_law__j2035 hfl again23 l0 l1 l2 l3 s23.1 m324 hag23
            · refine pm_iconst (v := 0) dL_law__2033 ki_0 ?_
              exact pm_nret (ty := .boolean) (w := 0) rfl (by decide) (by decide) dL_law__2034
        · refine pm_iconst (v := 0) dL_law__2016 ki_0 ?_
          exact pm_nret (ty := .boolean) (w := 0) rfl (by decide) (by decide) dL_law__2017
      refine pm_case (c := (34 : Int32)) (fun h9 => ?_) (fun h9_34 => ?_)
      · refine pm_swIn (off := (1998)) (tgt := 2038) dL_law__40 (by rw [h9]; decide) (by rw [h9]; decide) (by rw [h9]; decide) (by decide) ?_
        refine pm_aload_n dL_law__2038 rfl rfl ?_
        refine pm_aload_n dL_law__2039 rfl rfl ?_
        refine pm_iload dL_law__2040 rfl ?_
        refine pm_iconst (v := 1) dL_law__2042 ki_1 ?_
        refine pm_iadd dL_law__2043 ?_
        refine pm_iald (y := zL_law_) dL_law__2044 (fun x327 => ?_)
        refine pm_aload_n dL_law__2045 rfl rfl ?_
        refine pm_iload dL_law__2046 rfl ?_
        refine pm_iconst (v := 2) dL_law__2048 ki_2 ?_
        refine pm_iadd dL_law__2049 ?_
        refine pm_iald (y := zL_law_) dL_law__2050 (fun x328 => ?_)
        refine pm_aload_n dL_law__2051 rfl rfl ?_
        refine pm_iload dL_law__2052 rfl ?_
        refine pm_iconst (v := 3) dL_law__2054 ki_3 ?_
        refine pm_iadd dL_law__2055 ?_
        refine pm_iald (y := zL_law_) dL_law__2056 (fun x329 => ?_)
        refine pm_aload_n dL_law__2057 rfl rfl ?_
        refine pm_iload dL_law__2058 rfl ?_
        refine pm_iconst (v := 4) dL_law__2060 ki_4 ?_
        refine pm_iadd dL_law__2061 ?_
        refine pm_iald (y := zL_law_) dL_law__2062 (fun x330 => ?_)
        refine pm_aload_n dL_law__2063 rfl rfl ?_
        refine pm_iload dL_law__2064 rfl ?_
        refine pm_iconst (v := 5) dL_law__2066 ki_5 ?_
        refine pm_iadd dL_law__2067 ?_
        refine pm_iald (y := zL_law_) dL_law__2068 (fun x331 => ?_)
        refine pm_aload_n dL_law__2069 rfl rfl ?_
        refine pm_iload dL_law__2070 rfl ?_
        refine pm_bipush (v := 6) dL_law__2072 kb_6 ?_
        refine pm_iadd dL_law__2074 ?_
        refine pm_iald (y := zL_law_) dL_law__2075 (fun x332 => ?_)
        refine pm_aload_n dL_law__2076 rfl rfl ?_
        refine pm_kI (d := d + 49) rfl (pm_SX (y := zL_law_) (z := zL_span) (As := [.ref l1, .int x327, .int x328, .int x329, .int x330, .int x331, .int x332, .ref l3]) zkL_span tw_1337 tw_1338 dL_law__2077 rfl rfl (Nat.le_of_ble_eq_true rfl)) (kcL_span (d := d + 43) hfl l1 x327 x328 x329 x330 x331 x332 l3 s23.2) (fun x334 m333 => ?_)
        refine pm_istore (ls2 := [.ref l0, .ref l1, .ref l2, .ref l3, .int s23.1, .int x334, pmU, pmU]) dL_law__2080 rfl (Nat.le_of_ble_eq_true rfl) rfl ?_
        refine pm_aload_n dL_law__2082 rfl rfl ?_
        refine pm_aload_n dL_law__2083 rfl rfl ?_
        refine pm_iload dL_law__2084 rfl ?_
        refine pm_iconst (v := 1) dL_law__2086 ki_1 ?_
        refine pm_iadd dL_law__2087 ?_
        refine pm_iald (y := zL_law_) dL_law__2088 (fun x335 => ?_)
        refine pm_aload_n dL_law__2089 rfl rfl ?_
        refine pm_iload dL_law__2090 rfl ?_
        refine pm_iconst (v := 2) dL_law__2092 ki_2 ?_
        refine pm_iadd dL_law__2093 ?_
        refine pm_iald (y := zL_law_) dL_law__2094 (fun x336 => ?_)
        refine pm_aload_n dL_law__2095 rfl rfl ?_
        refine pm_iload dL_law__2096 rfl ?_
        refine pm_iconst (v := 3) dL_law__2098 ki_3 ?_
        refine pm_iadd dL_law__2099 ?_
        refine pm_iald (y := zL_law_) dL_law__2100 (fun x337 => ?_)
        refine pm_aload_n dL_law__2101 rfl rfl ?_
        refine pm_iload dL_law__2102 rfl ?_
        refine pm_iconst (v := 4) dL_law__2104 ki_4 ?_
        refine pm_iadd dL_law__2105 ?_
        refine pm_iald (y := zL_law_) dL_law__2106 (fun x338 => ?_)
        refine pm_aload_n dL_law__2107 rfl rfl ?_
        refine pm_iload dL_law__2108 rfl ?_
        refine pm_iconst (v := 5) dL_law__2110 ki_5 ?_
        refine pm_iadd dL_law__2111 ?_
        refine pm_iald (y := zL_law_) dL_law__2112 (fun x339 => ?_)
        refine pm_aload_n dL_law__2113 rfl rfl ?_
        refine pm_iload dL_law__2114 rfl ?_
        refine pm_bipush (v := 6) dL_law__2116 kb_6 ?_
        refine pm_iadd dL_law__2118 ?_
        refine pm_iald (y := zL_law_) dL_law__2119 (fun x340 => ?_)
        refine pm_rcv (fun hb9 hc9 => ?_)
        refine pm_kI (d := d + 49) rfl (pm_V (y := zL_law_) (z := zX9_span) (As := [.int x335, .int x336, .int x337, .int x338, .int x339, .int x340]) zkX9_span pm_q9 (by decide) tw_1940 tw_1941 tw_1942 dL_law__2120 rfl rfl (Nat.le_of_ble_eq_true rfl) hb9 hc9) (kcX9_span (d := d + 42) hfl l2 x335 x336 x337 x338 x339 x340 m333) (fun x342 m341 => ?_)
        refine pm_istore (ls2 := [.ref l0, .ref l1, .ref l2, .ref l3, .int s23.1, .int x334, .int x342, pmU]) dL_law__2123 rfl (Nat.le_of_ble_eq_true rfl) rfl ?_
        refine pm_aload_n dL_law__2125 rfl rfl ?_
        refine pm_rcv (fun hb9 hc9 => ?_)
        refine pm_kI (d := d + 49) rfl (pm_V (y := zL_law_) (z := zX9_thrown) (As := []) zkX9_thrown pm_q9 (by decide) tw_1533 tw_1534 tw_1535 dL_law__2126 rfl rfl (Nat.le_of_ble_eq_true rfl) hb9 hc9) (kcX9_thrown (d := d + 49) hfl l2 m341) (fun x344 m343 => ?_)
        refine pm_iload dL_law__2129 rfl ?_
        refine pm_icmp_eq (tgt := 2136) dL_law__2131 rfl ?_ ?_
        · refine pm_iload dL_law__2136 rfl ?_
          refine pm_if_ne (tgt := 2153) dL_law__2138 rfl ?_ ?_
          · refine pm_drop (ls2 := [.ref l0, .ref l1, .ref l2, .ref l3, .int s23.1, pmU, pmU, pmU]) (Nat.le_refl _) (pm_le_spec (pm_le_v (pm_le_v (pm_le_v (pm_le_v (pm_le_v (pm_le_u (pm_le_u (pm_le_u (pm_le_n)))))))))) ?_
            exact gL_law__j2153 hfl again23 l0 l1 l2 l3 s23.1 m343 hag23
          · refine pm_aload_n dL_law__2141 rfl rfl ?_
            refine pm_iconst (v := 0) dL_law__2142 ki_0 ?_
            refine pm_lald (y := zL_law_) dL_law__2143 (fun x345 => ?_)
            refine pm_iload dL_law__2144 rfl ?_
            refine pm_i2l dL_law__2146 ?_
            refine pm_lcmp dL_law__2147 ?_
            refine pm_if_eq (tgt := 2153) dL_law__2148 rfl ?_ ?_
            · refine pm_drop (ls2 := [.ref l0, .ref l1, .ref l2, .ref l3, .int s23.1, pmU, pmU, pmU]) (Nat.le_refl _) (pm_le_spec (pm_le_v (pm_le_v (pm_le_v (pm_le_v (pm_le_v (pm_le_u (pm_le_u (pm_le_u (pm_le_n)))))))))) ?_
              exact gL_law__j2153 hfl again23 l0 l1 l2 l3 s23.1 m343 hag23
            · refine pm_iconst (v := 0) dL_law__2151 ki_0 ?_
              exact pm_nret (ty := .boolean) (w := 0) rfl (by decide) (by decide) dL_law__2152
        · refine pm_iconst (v := 0) dL_law__2134 ki_0 ?_
          exact pm_nret (ty := .boolean) (w := 0) rfl (by decide) (by decide) dL_law__2135
      refine pm_case (c := (35 : Int32)) (fun h9 => ?_) (fun h9_35 => ?_)
      · refine pm_swIn (off := (2116)) (tgt := 2156) dL_law__40 (by rw [h9]; decide) (by rw [h9]; decide) (by rw [h9]; decide) (by decide) ?_
        refine pm_aload_n dL_law__2156 rfl rfl ?_
        refine pm_rcv (fun hb9 hc9 => ?_)
        refine pm_kI (d := d + 49) rfl (pm_V (y := zL_law_) (z := zX8_image) (As := []) zkX8_image pm_q8 (by decide) tw_510 tw_511 tw_512 dL_law__2157 rfl rfl (Nat.le_of_ble_eq_true rfl) hb9 hc9) (kcX8_image (d := d + 47) hfl l1 s23.2) (fun x347 m346 => ?_)
        refine pm_aload_n dL_law__2160 rfl rfl ?_
        refine pm_rcv (fun hb9 hc9 => ?_)
        refine pm_kI (d := d + 49) rfl (pm_V (y := zL_law_) (z := zX9_image) (As := []) zkX9_image pm_q9 (by decide) tw_1944 tw_1945 tw_1946 dL_law__2161 rfl rfl (Nat.le_of_ble_eq_true rfl) hb9 hc9) (kcX9_image (d := d + 47) hfl l2 m346) (fun x349 m348 => ?_)
        refine pm_icmp_eq (tgt := 2232) dL_law__2164 rfl ?_ ?_
        · exact gL_law__j2232 hfl again23 l0 l1 l2 l3 s23.1 m348 hag23
        · refine pm_iconst (v := 0) dL_law__2167 ki_0 ?_
          exact pm_nret (ty := .boolean) (w := 0) rfl (by decide) (by decide) dL_law__2168
      refine pm_case (c := (36 : Int32)) (fun h9 => ?_) (fun h9_36 => ?_)
      · refine pm_swIn (off := (2129)) (tgt := 2169) dL_law__40 (by rw [h9]; decide) (by rw [h9]; decide) (by rw [h9]; decide) (by decide) ?_
        refine pm_aload_n dL_law__2169 rfl rfl ?_
        refine pm_rcv (fun hb9 hc9 => ?_)
        refine pm_kI (d := d + 49) rfl (pm_V (y := zL_law_) (z := zX8_restore) (As := []) zkX8_restore pm_q8 (by decide) tw_526 tw_527 tw_528 dL_law__2170 rfl rfl (Nat.le_of_ble_eq_true rfl) hb9 hc9) (kcX8_restore (d := d + 47) hfl l1 s23.2) (fun x351 m350 => ?_)
        refine pm_aload_n dL_law__2173 rfl rfl ?_
        refine pm_rcv (fun hb9 hc9 => ?_)
        refine pm_kI (d := d + 49) rfl (pm_V (y := zL_law_) (z := zX9_restore) (As := []) zkX9_restore pm_q9 (by decide) tw_1956 tw_1957 tw_1958 dL_law__2174 rfl rfl (Nat.le_of_ble_eq_true rfl) hb9 hc9) (kcX9_restore (d := d + 47) hfl l2 m350) (fun x353 m352 => ?_)
        refine pm_icmp_eq (tgt := 2232) dL_law__2177 rfl ?_ ?_
        · exact gL_law__j2232 hfl again23 l0 l1 l2 l3 s23.1 m352 hag23
        · refine pm_iconst (v := 0) dL_law__2180 ki_0 ?_
          exact pm_nret (ty := .boolean) (w := 0) rfl (by decide) (by decide) dL_law__2181
      refine pm_case (c := (37 : Int32)) (fun h9 => ?_) (fun h9_37 => ?_)
      · refine pm_swIn (off := (2142)) (tgt := 2182) dL_law__40 (by rw [h9]; decide) (by rw [h9]; decide) (by rw [h9]; decide) (by decide) ?_
        refine pm_aload_n dL_law__2182 rfl rfl ?_
        refine pm_aload_n dL_law__2183 rfl rfl ?_
        refine pm_iload dL_law__2184 rfl ?_
        refine pm_iconst (v := 1) dL_law__2186 ki_1 ?_
        refine pm_iadd dL_law__2187 ?_
        refine pm_iald (y := zL_law_) dL_law__2188 (fun x354 => ?_)
        refine pm_rcv (fun hb9 hc9 => ?_)
        refine pm_kI (d := d + 49) rfl (pm_V (y := zL_law_) (z := zX8_status) (As := [.int x354]) zkX8_status pm_q8 (by decide) tw_664 tw_665 tw_666 dL_law__2189 rfl rfl (Nat.le_of_ble_eq_true rfl) hb9 hc9) (kcX8_status (d := d + 49) hfl l1 x354 s23.2) (fun x356 m355 => ?_)
        refine pm_aload_n dL_law__2192 rfl rfl ?_
        refine pm_aload_n dL_law__2193 rfl rfl ?_
        refine pm_iload dL_law__2194 rfl ?_
        refine pm_iconst (v := 1) dL_law__2196 ki_1 ?_
        refine pm_iadd dL_law__2197 ?_
        refine pm_iald (y := zL_law_) dL_law__2198 (fun x357 => ?_)
        refine pm_rcv (fun hb9 hc9 => ?_)
        refine pm_kI (d := d + 49) rfl (pm_V (y := zL_law_) (z := zX9_status) (As := [.int x357]) zkX9_status pm_q9 (by decide) tw_1960 tw_1961 tw_1962 dL_law__2199 rfl rfl (Nat.le_of_ble_eq_true rfl) hb9 hc9) (kcX9_status (d := d + 48) hfl l2 x357 m355) (fun x359 m358 => ?_)
        refine pm_icmp_eq (tgt := 2232) dL_law__2202 rfl ?_ ?_
        · exact gL_law__j2232 hfl again23 l0 l1 l2 l3 s23.1 m358 hag23
        · refine pm_iconst (v := 0) dL_law__2205 ki_0 ?_
          exact pm_nret (ty := .boolean) (w := 0) rfl (by decide) (by decide) dL_law__2206
      refine pm_case (c := (38 : Int32)) (fun h9 => ?_) (fun h9_38 => ?_)
      · refine pm_swIn (off := (2167)) (tgt := 2207) dL_law__40 (by rw [h9]; decide) (by rw [h9]; decide) (by rw [h9]; decide) (by decide) ?_
        refine pm_aload_n dL_law__2207 rfl rfl ?_
        refine pm_aload_n dL_law__2208 rfl rfl ?_
        refine pm_iload dL_law__2209 rfl ?_
        refine pm_iconst (v := 1) dL_law__2211 ki_1 ?_
        refine pm_iadd dL_law__2212 ?_
        refine pm_iald (y := zL_law_) dL_law__2213 (fun x360 => ?_)
        refine pm_rcv (fun hb9 hc9 => ?_)
        refine pm_kI (d := d + 49) rfl (pm_V (y := zL_law_) (z := zX8_count) (As := [.int x360]) zkX8_count pm_q8 (by decide) tw_668 tw_669 tw_670 dL_law__2214 rfl rfl (Nat.le_of_ble_eq_true rfl) hb9 hc9) (kcX8_count (d := d + 49) hfl l1 x360 s23.2) (fun x362 m361 => ?_)
        refine pm_aload_n dL_law__2217 rfl rfl ?_
        refine pm_aload_n dL_law__2218 rfl rfl ?_
        refine pm_iload dL_law__2219 rfl ?_
        refine pm_iconst (v := 1) dL_law__2221 ki_1 ?_
        refine pm_iadd dL_law__2222 ?_
        refine pm_iald (y := zL_law_) dL_law__2223 (fun x363 => ?_)
        refine pm_rcv (fun hb9 hc9 => ?_)
        refine pm_kI (d := d + 49) rfl (pm_V (y := zL_law_) (z := zX9_count) (As := [.int x363]) zkX9_count pm_q9 (by decide) tw_1964 tw_1965 tw_1966 dL_law__2224 rfl rfl (Nat.le_of_ble_eq_true rfl) hb9 hc9) (kcX9_count (d := d + 49) hfl l2 x363 m361) (fun x365 m364 => ?_)
        refine pm_icmp_eq (tgt := 2232) dL_law__2227 rfl ?_ ?_
        · exact gL_law__j2232 hfl again23 l0 l1 l2 l3 s23.1 m364 hag23
        · refine pm_iconst (v := 0) dL_law__2230 ki_0 ?_
          exact pm_nret (ty := .boolean) (w := 0) rfl (by decide) (by decide) dL_law__2231
      refine pm_swOut (tgt := 2232) dL_law__40 (pm_swx x11 (0) 39 (lt_s (lt_s (lt_s (lt_s (lt_s (lt_s (lt_s (lt_s (lt_s (lt_s (lt_s (lt_s (lt_s (lt_s (lt_s (lt_s (lt_s (lt_s (lt_s (lt_s (lt_s (lt_s (lt_s (lt_s (lt_s (lt_s (lt_s (lt_s (lt_s (lt_s (lt_s (lt_s (lt_s (lt_s (lt_s (lt_s (lt_s (lt_s (lt_s (lt_0) (pm_ne h9_0 (by decide))) (pm_ne h9_1 (by decide))) (pm_ne h9_2 (by decide))) (pm_ne h9_3 (by decide))) (pm_ne h9_4 (by decide))) (pm_ne h9_5 (by decide))) (pm_ne h9_6 (by decide))) (pm_ne h9_7 (by decide))) (pm_ne h9_8 (by decide))) (pm_ne h9_9 (by decide))) (pm_ne h9_10 (by decide))) (pm_ne h9_11 (by decide))) (pm_ne h9_12 (by decide))) (pm_ne h9_13 (by decide))) (pm_ne h9_14 (by decide))) (pm_ne h9_15 (by decide))) (pm_ne h9_16 (by decide))) (pm_ne h9_17 (by decide))) (pm_ne h9_18 (by decide))) (pm_ne h9_19 (by decide))) (pm_ne h9_20 (by decide))) (pm_ne h9_21 (by decide))) (pm_ne h9_22 (by decide))) (pm_ne h9_23 (by decide))) (pm_ne h9_24 (by decide))) (pm_ne h9_25 (by decide))) (pm_ne h9_26 (by decide))) (pm_ne h9_27 (by decide))) (pm_ne h9_28 (by decide))) (pm_ne h9_29 (by decide))) (pm_ne h9_30 (by decide))) (pm_ne h9_31 (by decide))) (pm_ne h9_32 (by decide))) (pm_ne h9_33 (by decide))) (pm_ne h9_34 (by decide))) (pm_ne h9_35 (by decide))) (pm_ne h9_36 (by decide))) (pm_ne h9_37 (by decide))) (pm_ne h9_38 (by decide)))) (by decide) ?_
      exact gL_law__j2232 hfl again23 l0 l1 l2 l3 s23.1 s23.2 hag23)
set_option maxRecDepth 100000 in
set_option maxHeartbeats 4000000 in
theorem geL_law_ (hfl : l.flags = flags0) (a0 : Nat) (m : pmM) : pm_G l Γ zL_law_ (d + 50) 0 [.ref a0, pmU, pmU, pmU, pmU, pmU, pmU, pmU] [] m (L_law_ a0 m) := by
  unfold L_law_
  refine pm_newn (y := zL_law_) pm_k8 pm_kd8 tw_178 tw_179 tw_156 dL_law__0 (fun r1 m2 => ?_)
  refine pm_dup dL_law__3 rfl ?_
  refine pm_kV (d := d + 49) rfl (pm_I (y := zL_law_) (z := zX8_init) (As := []) zkX8_init rfl rfl tw_180 tw_181 dL_law__4 rfl rfl (Nat.le_of_ble_eq_true rfl)) (kcX8_init (d := d + 47) hfl r1 m2) (fun m3 => ?_)
  refine pm_astore_n (ls2 := [.ref a0, .ref r1, pmU, pmU, pmU, pmU, pmU, pmU]) dL_law__7 rfl rfl (Nat.le_of_ble_eq_true rfl) rfl ?_
  refine pm_newn (y := zL_law_) pm_k9 pm_kd9 tw_1345 tw_1346 tw_166 dL_law__8 (fun r4 m5 => ?_)
  refine pm_dup dL_law__11 rfl ?_
  refine pm_kV (d := d + 49) rfl (pm_I (y := zL_law_) (z := zX9_init) (As := []) zkX9_init rfl rfl tw_1347 tw_1348 dL_law__12 rfl rfl (Nat.le_of_ble_eq_true rfl)) (kcX9_init (d := d + 47) hfl r4 m5) (fun m6 => ?_)
  refine pm_astore_n (ls2 := [.ref a0, .ref r1, .ref r4, pmU, pmU, pmU, pmU, pmU]) dL_law__15 rfl rfl (Nat.le_of_ble_eq_true rfl) rfl ?_
  refine pm_iconst (v := 1) dL_law__16 ki_1 ?_
  refine pm_newa (y := zL_law_) (atype := .long) (kd := 102) (by decide) tw_438 dL_law__17 (fun r7 m8 => ?_)
  refine pm_astore_n (ls2 := [.ref a0, .ref r1, .ref r4, .ref r7, pmU, pmU, pmU, pmU]) dL_law__19 rfl rfl (Nat.le_of_ble_eq_true rfl) rfl ?_
  refine pm_iconst (v := 0) dL_law__20 ki_0 ?_
  refine pm_istore (ls2 := [.ref a0, .ref r1, .ref r4, .ref r7, .int 0, pmU, pmU, pmU]) dL_law__21 rfl (Nat.le_of_ble_eq_true rfl) rfl ?_
  exact gL_law__L23 hfl a0 r1 r4 r7 pm_N (0, m8)
end GEN30
