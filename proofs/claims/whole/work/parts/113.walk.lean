noncomputable def f_L_law_1000000_l18 (L : Nat) (xs : Nat → Int32) (n : Nat) (S : rk_Sh) (I : rk_I) (J : rk_J) (R : rk_R) (s3 : Int32) : Option ((Int32 × Nat × rk_Sh × rk_I × rk_J × rk_R) ⊕ ((Int32 × Nat × rk_Sh × rk_I × rk_J × rk_R) ⊕ (Int32 × Nat × rk_Sh × rk_I × rk_J × rk_R))) :=
if ((Int32.ofNat L) - 6) < s3 then (
some (.inr (.inl (s3, n, S, I, J, R)))) else (
(rk_srd L xs s3).bind fun x1 =>
if (x1 &&& 31) = 0 then (
(rk_srd L xs (s3 + 1)).bind fun x2 =>
(rk_srd L xs (s3 + 2)).bind fun x3 =>
(rk_layC S R).bind fun _ =>
rk_b6 (f_X9_cargo n S I J R x2 x3) fun x4 n1 S1 I1 J1 R1 =>
(rk_srd L xs (s3 + 1)).bind fun x5 =>
(rk_srd L xs (s3 + 2)).bind fun x6 =>
(rk_layM S1 R1).bind fun _ =>
rk_b2 (f_X10_cargo I1 x5 x6) fun x7 I2 =>
if x4 = x7 then (
some (.inl ((s3 + 6), n1, S1, I2, J1, R1))) else (
some (.inr (.inr (0, n1, S1, I2, J1, R1))))) else
if (x1 &&& 31) = 1 then (
(rk_srd L xs (s3 + 1)).bind fun x8 =>
(rk_srd L xs (s3 + 2)).bind fun x9 =>
(rk_srd L xs (s3 + 3)).bind fun x10 =>
(rk_layC S R).bind fun _ =>
rk_b2 (f_X9_hour S I R x8 x9 x10) fun x11 I3 =>
(rk_srd L xs (s3 + 1)).bind fun x12 =>
(rk_srd L xs (s3 + 2)).bind fun x13 =>
(rk_srd L xs (s3 + 3)).bind fun x14 =>
(rk_layM S R).bind fun _ =>
rk_b2 (f_X10_hour I3 x12 x13 x14) fun x15 I4 =>
if x11 = x15 then (
some (.inl ((s3 + 6), n, S, I4, J, R))) else (
some (.inr (.inr (0, n, S, I4, J, R))))) else
if (x1 &&& 31) = 2 then (
(rk_srd L xs (s3 + 1)).bind fun x16 =>
(rk_srd L xs (s3 + 2)).bind fun x17 =>
(rk_srd L xs (s3 + 3)).bind fun x18 =>
(rk_srd L xs (s3 + 4)).bind fun x19 =>
(rk_srd L xs (s3 + 5)).bind fun x20 =>
(rk_layC S R).bind fun _ =>
rk_b6 (f_X9_sale n S I J R x16 x17 x18 x19 x20) fun x21 n2 S2 I5 J2 R2 =>
(rk_srd L xs (s3 + 1)).bind fun x22 =>
(rk_srd L xs (s3 + 2)).bind fun x23 =>
(rk_srd L xs (s3 + 3)).bind fun x24 =>
(rk_srd L xs (s3 + 4)).bind fun x25 =>
(rk_srd L xs (s3 + 5)).bind fun x26 =>
(rk_layM S2 R2).bind fun _ =>
rk_b2 (f_X10_sale I5 x22 x23 x24 x25 x26) fun x27 I6 =>
if x21 = x27 then (
some (.inl ((s3 + 6), n2, S2, I6, J2, R2))) else (
some (.inr (.inr (0, n2, S2, I6, J2, R2))))) else
if (x1 &&& 31) = 3 then (
(rk_srd L xs (s3 + 1)).bind fun x28 =>
(rk_srd L xs (s3 + 2)).bind fun x29 =>
(rk_layC S R).bind fun _ =>
rk_b2 (f_X9_paper S I R x28 x29) fun x30 I7 =>
(rk_srd L xs (s3 + 1)).bind fun x31 =>
(rk_srd L xs (s3 + 2)).bind fun x32 =>
(rk_layM S R).bind fun _ =>
rk_b2 (f_X10_paper I7 x31 x32) fun x33 I8 =>
if x30 = x33 then (
some (.inl ((s3 + 6), n, S, I8, J, R))) else (
some (.inr (.inr (0, n, S, I8, J, R))))) else
if (x1 &&& 31) = 4 then (
(rk_srd L xs (s3 + 1)).bind fun x34 =>
(rk_srd L xs (s3 + 2)).bind fun x35 =>
(rk_layC S R).bind fun _ =>
rk_b2 (f_X9_pay S I R x34 x35) fun x36 I9 =>
(rk_srd L xs (s3 + 1)).bind fun x37 =>
(rk_srd L xs (s3 + 2)).bind fun x38 =>
(rk_layM S R).bind fun _ =>
rk_b2 (f_X10_pay I9 x37 x38) fun x39 I10 =>
if x36 = x39 then (
some (.inl ((s3 + 6), n, S, I10, J, R))) else (
some (.inr (.inr (0, n, S, I10, J, R))))) else
if (x1 &&& 31) = 5 then (
(rk_srd L xs (s3 + 1)).bind fun x40 =>
(rk_srd L xs (s3 + 2)).bind fun x41 =>
(rk_layC S R).bind fun _ =>
(f_X9_told S I R x40 x41).bind fun x42 =>
(rk_srd L xs (s3 + 1)).bind fun x43 =>
(rk_srd L xs (s3 + 2)).bind fun x44 =>
(rk_layM S R).bind fun _ =>
(f_X10_told I x43 x44).bind fun x45 =>
if x42 = x45 then (
some (.inl ((s3 + 6), n, S, I, J, R))) else (
some (.inr (.inr (0, n, S, I, J, R))))) else
if (x1 &&& 31) = 6 then (
(rk_srd L xs (s3 + 1)).bind fun x46 =>
(rk_srd L xs (s3 + 2)).bind fun x47 =>
(rk_srd L xs (s3 + 3)).bind fun x48 =>
(rk_srd L xs (s3 + 4)).bind fun x49 =>
(rk_layC S R).bind fun _ =>
rk_b3 (f_X9_whose S I R x46 x47 x48 x49) fun x50 I11 R3 =>
(rk_srd L xs (s3 + 1)).bind fun x51 =>
(rk_srd L xs (s3 + 2)).bind fun x52 =>
(rk_srd L xs (s3 + 3)).bind fun x53 =>
(rk_srd L xs (s3 + 4)).bind fun x54 =>
(rk_layM S R3).bind fun _ =>
rk_b2 (f_X10_whose I11 x51 x52 x53 x54) fun x55 I12 =>
if x50 = x55 then (
some (.inl ((s3 + 6), n, S, I12, J, R3))) else (
some (.inr (.inr (0, n, S, I12, J, R3))))) else
if (x1 &&& 31) = 7 then (
(rk_srd L xs (s3 + 1)).bind fun x56 =>
(rk_srd L xs (s3 + 2)).bind fun x57 =>
(rk_srd L xs (s3 + 3)).bind fun x58 =>
(rk_srd L xs (s3 + 4)).bind fun x59 =>
(rk_layC S R).bind fun _ =>
rk_b3 (f_X9_falls S I R x56 x57 x58 x59) fun x60 I13 R4 =>
(rk_srd L xs (s3 + 1)).bind fun x61 =>
(rk_srd L xs (s3 + 2)).bind fun x62 =>
(rk_srd L xs (s3 + 3)).bind fun x63 =>
(rk_srd L xs (s3 + 4)).bind fun x64 =>
(rk_layM S R4).bind fun _ =>
rk_b2 (f_X10_falls I13 x61 x62 x63 x64) fun x65 I14 =>
if (lg_cmp x60 x65) = 0 then (
some (.inl ((s3 + 6), n, S, I14, J, R4))) else (
some (.inr (.inr (0, n, S, I14, J, R4))))) else
if (x1 &&& 31) = 8 then (
(rk_srd L xs (s3 + 1)).bind fun x66 =>
(rk_srd L xs (s3 + 2)).bind fun x67 =>
(rk_srd L xs (s3 + 3)).bind fun x68 =>
(rk_srd L xs (s3 + 4)).bind fun x69 =>
(rk_layC S R).bind fun _ =>
rk_b3 (f_X9_between S I R x66 x67 x68 x69) fun x70 I15 R5 =>
(rk_srd L xs (s3 + 1)).bind fun x71 =>
(rk_srd L xs (s3 + 2)).bind fun x72 =>
(rk_srd L xs (s3 + 3)).bind fun x73 =>
(rk_srd L xs (s3 + 4)).bind fun x74 =>
(rk_layM S R5).bind fun _ =>
rk_b2 (f_X10_between I15 x71 x72 x73 x74) fun x75 I16 =>
if x70 = x75 then (
some (.inl ((s3 + 6), n, S, I16, J, R5))) else (
some (.inr (.inr (0, n, S, I16, J, R5))))) else
if (x1 &&& 31) = 9 then (
(rk_srd L xs (s3 + 1)).bind fun x76 =>
(rk_srd L xs (s3 + 2)).bind fun x77 =>
(rk_srd L xs (s3 + 3)).bind fun x78 =>
(rk_layC S R).bind fun _ =>
rk_b2 (f_X9_feed I x76 ((rk_lsl x77.toInt64 32) ||| (x78.toInt64 &&& 4294967295))) fun x79 I17 =>
(rk_srd L xs (s3 + 1)).bind fun x80 =>
(rk_srd L xs (s3 + 2)).bind fun x81 =>
(rk_srd L xs (s3 + 3)).bind fun x82 =>
(rk_layM S R).bind fun _ =>
rk_b2 (f_X10_feed I17 x80 ((rk_lsl x81.toInt64 32) ||| (x82.toInt64 &&& 4294967295))) fun x83 I18 =>
if x79 = x83 then (
some (.inl ((s3 + 6), n, S, I18, J, R))) else (
some (.inr (.inr (0, n, S, I18, J, R))))) else
if (x1 &&& 31) = 10 then (
(rk_layC S R).bind fun _ =>
rk_b6 (f_X9_text n S I J R) fun x84 n3 S3 I19 J3 R6 =>
(rk_layM S3 R6).bind fun _ =>
rk_b3 (f_X10_text I19 J3) fun x85 I20 J4 =>
if x84 = x85 then (
some (.inl ((s3 + 6), n3, S3, I20, J4, R6))) else (
some (.inr (.inr (0, n3, S3, I20, J4, R6))))) else
if (x1 &&& 31) = 11 then (
(rk_srd L xs (s3 + 1)).bind fun x86 =>
(rk_layC S R).bind fun _ =>
rk_b2 (f_X9_force I x86) fun x87 I21 =>
(rk_srd L xs (s3 + 1)).bind fun x88 =>
(rk_layM S R).bind fun _ =>
rk_b2 (f_X10_force I21 x88) fun x89 I22 =>
if x87 = x89 then (
some (.inl ((s3 + 6), n, S, I22, J, R))) else (
some (.inr (.inr (0, n, S, I22, J, R))))) else
if (x1 &&& 31) = 12 then (
(rk_srd L xs (s3 + 1)).bind fun x90 =>
(rk_srd L xs (s3 + 2)).bind fun x91 =>
(rk_layC S R).bind fun _ =>
rk_b2 (f_X9_owes S I R x90 x91) fun x92 I23 =>
(rk_srd L xs (s3 + 1)).bind fun x93 =>
(rk_srd L xs (s3 + 2)).bind fun x94 =>
(rk_layM S R).bind fun _ =>
rk_b3 (f_X10_owes I23 J x93 x94) fun x95 I24 J5 =>
if (lg_cmp x92 x95) = 0 then (
some (.inl ((s3 + 6), n, S, I24, J5, R))) else (
some (.inr (.inr (0, n, S, I24, J5, R))))) else
if (x1 &&& 31) = 13 then (
(rk_srd L xs (s3 + 1)).bind fun x96 =>
(rk_srd L xs (s3 + 2)).bind fun x97 =>
(rk_layC S R).bind fun _ =>
rk_b2 (f_X9_balance S I R x96 x97) fun x98 I25 =>
(rk_srd L xs (s3 + 1)).bind fun x99 =>
(rk_srd L xs (s3 + 2)).bind fun x100 =>
(rk_layM S R).bind fun _ =>
rk_b3 (f_X10_balance I25 J x99 x100) fun x101 I26 J6 =>
if (lg_cmp x98 x101) = 0 then (
some (.inl ((s3 + 6), n, S, I26, J6, R))) else (
some (.inr (.inr (0, n, S, I26, J6, R))))) else
if (x1 &&& 31) = 14 then (
(rk_srd L xs (s3 + 1)).bind fun x102 =>
(rk_layC S R).bind fun _ =>
rk_b3 (f_X9_closes S I R x102) fun x103 I27 R7 =>
(rk_srd L xs (s3 + 1)).bind fun x104 =>
(rk_layM S R7).bind fun _ =>
(f_X10_closes I27 x104).bind fun x105 =>
if x103 = x105 then (
some (.inl ((s3 + 6), n, S, I27, J, R7))) else (
some (.inr (.inr (0, n, S, I27, J, R7))))) else
if (x1 &&& 31) = 15 then (
(rk_srd L xs (s3 + 1)).bind fun x106 =>
(rk_srd L xs (s3 + 2)).bind fun x107 =>
(rk_layC S R).bind fun _ =>
rk_b3 (f_X9_differ S I R x106 x107) fun x108 I28 R8 =>
(rk_srd L xs (s3 + 1)).bind fun x109 =>
(rk_srd L xs (s3 + 2)).bind fun x110 =>
(rk_layM S R8).bind fun _ =>
(f_X10_differ I28 x109 x110).bind fun x111 =>
if (lg_cmp x108 x111) = 0 then (
some (.inl ((s3 + 6), n, S, I28, J, R8))) else (
some (.inr (.inr (0, n, S, I28, J, R8))))) else
if (x1 &&& 31) = 16 then (
(rk_srd L xs (s3 + 1)).bind fun x112 =>
(rk_layC S R).bind fun _ =>
rk_b3 (f_X9_found S I R x112) fun x113 I29 R9 =>
(rk_srd L xs (s3 + 1)).bind fun x114 =>
(rk_layM S R9).bind fun _ =>
(f_X10_found I29 x114).bind fun x115 =>
if x113 = x115 then (
some (.inl ((s3 + 6), n, S, I29, J, R9))) else (
some (.inr (.inr (0, n, S, I29, J, R9))))) else
if (x1 &&& 31) = 17 then (
(rk_srd L xs (s3 + 1)).bind fun x116 =>
(rk_srd L xs (s3 + 2)).bind fun x117 =>
(rk_layC S R).bind fun _ =>
rk_b2 (f_X9_loses S I R x116 x117) fun x118 I30 =>
(rk_srd L xs (s3 + 1)).bind fun x119 =>
(rk_srd L xs (s3 + 2)).bind fun x120 =>
(rk_layM S R).bind fun _ =>
rk_b3 (f_X10_loses I30 J x119 x120) fun x121 I31 J7 =>
if (lg_cmp x118 x121) = 0 then (
some (.inl ((s3 + 6), n, S, I31, J7, R))) else (
some (.inr (.inr (0, n, S, I31, J7, R))))) else
if (x1 &&& 31) = 18 then (
(rk_srd L xs (s3 + 1)).bind fun x122 =>
(rk_srd L xs (s3 + 2)).bind fun x123 =>
(rk_layC S R).bind fun _ =>
rk_b2 (f_X9_stops S I R x122 x123) fun x124 I32 =>
(rk_srd L xs (s3 + 1)).bind fun x125 =>
(rk_srd L xs (s3 + 2)).bind fun x126 =>
(rk_layM S R).bind fun _ =>
rk_b3 (f_X10_stops I32 J x125 x126) fun x127 I33 J8 =>
if x124 = x127 then (
some (.inl ((s3 + 6), n, S, I33, J8, R))) else (
some (.inr (.inr (0, n, S, I33, J8, R))))) else
if (x1 &&& 31) = 19 then (
(rk_srd L xs (s3 + 1)).bind fun x128 =>
(rk_srd L xs (s3 + 2)).bind fun x129 =>
(rk_srd L xs (s3 + 3)).bind fun x130 =>
(rk_layC S R).bind fun _ =>
(f_X9_two S I R x128 x129 x130).bind fun x131 =>
(rk_srd L xs (s3 + 1)).bind fun x132 =>
(rk_srd L xs (s3 + 2)).bind fun x133 =>
(rk_srd L xs (s3 + 3)).bind fun x134 =>
(rk_layM S R).bind fun _ =>
(f_X10_two I x132 x133 x134).bind fun x135 =>
if x131 = x135 then (
some (.inl ((s3 + 6), n, S, I, J, R))) else (
some (.inr (.inr (0, n, S, I, J, R))))) else
if (x1 &&& 31) = 20 then (
(rk_srd L xs (s3 + 1)).bind fun x136 =>
(rk_srd L xs (s3 + 2)).bind fun x137 =>
(rk_srd L xs (s3 + 3)).bind fun x138 =>
(rk_layC S R).bind fun _ =>
rk_b3 (f_X9_hangs S I R x136 x137 x138) fun x139 I34 R10 =>
(rk_srd L xs (s3 + 1)).bind fun x140 =>
(rk_srd L xs (s3 + 2)).bind fun x141 =>
(rk_srd L xs (s3 + 3)).bind fun x142 =>
(rk_layM S R10).bind fun _ =>
rk_b2 (f_X10_hangs I34 x140 x141 x142) fun x143 I35 =>
if x139 = x143 then (
some (.inl ((s3 + 6), n, S, I35, J, R10))) else (
some (.inr (.inr (0, n, S, I35, J, R10))))) else
if (x1 &&& 31) = 21 then (
(rk_srd L xs (s3 + 1)).bind fun x144 =>
(rk_srd L xs (s3 + 2)).bind fun x145 =>
(rk_srd L xs (s3 + 3)).bind fun x146 =>
(rk_layC S R).bind fun _ =>
rk_b3 (f_X9_moves S I R x144 x145 x146) fun x147 I36 R11 =>
(rk_srd L xs (s3 + 1)).bind fun x148 =>
(rk_srd L xs (s3 + 2)).bind fun x149 =>
(rk_srd L xs (s3 + 3)).bind fun x150 =>
(rk_layM S R11).bind fun _ =>
rk_b2 (f_X10_moves I36 x148 x149 x150) fun x151 I37 =>
if (lg_cmp x147 x151) = 0 then (
some (.inl ((s3 + 6), n, S, I37, J, R11))) else (
some (.inr (.inr (0, n, S, I37, J, R11))))) else
if (x1 &&& 31) = 22 then (
(rk_srd L xs (s3 + 1)).bind fun x152 =>
(rk_srd L xs (s3 + 2)).bind fun x153 =>
(rk_layC S R).bind fun _ =>
rk_b3 (f_X9_telegraph S I R x152 x153) fun x154 I38 R12 =>
(rk_srd L xs (s3 + 1)).bind fun x155 =>
(rk_srd L xs (s3 + 2)).bind fun x156 =>
(rk_layM S R12).bind fun _ =>
rk_b2 (f_X10_telegraph I38 x155 x156) fun x157 I39 =>
if x154 = x157 then (
some (.inl ((s3 + 6), n, S, I39, J, R12))) else (
some (.inr (.inr (0, n, S, I39, J, R12))))) else
if (x1 &&& 31) = 23 then (
(rk_layC S R).bind fun _ =>
rk_b2 (f_X9_image S I R) fun x158 I40 =>
(rk_layM S R).bind fun _ =>
rk_b2 (f_X10_image I40) fun x159 I41 =>
if x158 = x159 then (
some (.inl ((s3 + 6), n, S, I41, J, R))) else (
some (.inr (.inr (0, n, S, I41, J, R))))) else
if (x1 &&& 31) = 24 then (
(rk_layC S R).bind fun _ =>
rk_b2 (f_X9_back S I R) fun x160 I42 =>
(rk_layM S R).bind fun _ =>
rk_b2 (f_X10_back I42) fun x161 I43 =>
if x160 = x161 then (
some (.inl ((s3 + 6), n, S, I43, J, R))) else (
some (.inr (.inr (0, n, S, I43, J, R))))) else
if (x1 &&& 31) = 25 then (
(rk_srd L xs (s3 + 1)).bind fun x162 =>
(rk_layC S R).bind fun _ =>
(f_X9_count S I R x162).bind fun x163 =>
(rk_srd L xs (s3 + 1)).bind fun x164 =>
(rk_layM S R).bind fun _ =>
(f_X10_count I x164).bind fun x165 =>
if x163 = x165 then (
some (.inl ((s3 + 6), n, S, I, J, R))) else (
some (.inr (.inr (0, n, S, I, J, R))))) else
if (x1 &&& 31) = 26 then (
(rk_srd L xs (s3 + 1)).bind fun x166 =>
(rk_srd L xs (s3 + 2)).bind fun x167 =>
(rk_srd L xs (s3 + 3)).bind fun x168 =>
(rk_layC S R).bind fun _ =>
rk_b2 (f_X9_sheet S I R x166 x167 x168) fun x169 I44 =>
(rk_srd L xs (s3 + 1)).bind fun x170 =>
(rk_srd L xs (s3 + 2)).bind fun x171 =>
(rk_srd L xs (s3 + 3)).bind fun x172 =>
(rk_layM S R).bind fun _ =>
rk_b2 (f_X10_sheet I44 x170 x171 x172) fun x173 I45 =>
if x169 = x173 then (
some (.inl ((s3 + 6), n, S, I45, J, R))) else (
some (.inr (.inr (0, n, S, I45, J, R))))) else
if (x1 &&& 31) = 27 then (
(rk_srd L xs (s3 + 1)).bind fun x174 =>
(rk_srd L xs (s3 + 2)).bind fun x175 =>
(rk_srd L xs (s3 + 3)).bind fun x176 =>
(rk_layC S R).bind fun _ =>
rk_b2 (f_X9_cell S I R x174 x175 x176) fun x177 I46 =>
(rk_srd L xs (s3 + 1)).bind fun x178 =>
(rk_srd L xs (s3 + 2)).bind fun x179 =>
(rk_srd L xs (s3 + 3)).bind fun x180 =>
(rk_layM S R).bind fun _ =>
rk_b2 (f_X10_cell I46 x178 x179 x180) fun x181 I47 =>
if x177 = x181 then (
some (.inl ((s3 + 6), n, S, I47, J, R))) else (
some (.inr (.inr (0, n, S, I47, J, R))))) else
if (x1 &&& 31) = 28 then (
(rk_srd L xs (s3 + 1)).bind fun x182 =>
(rk_srd L xs (s3 + 2)).bind fun x183 =>
(rk_srd L xs (s3 + 3)).bind fun x184 =>
(rk_srd L xs (s3 + 4)).bind fun x185 =>
(rk_srd L xs (s3 + 5)).bind fun x186 =>
(rk_layC S R).bind fun _ =>
rk_b2 (f_X9_copy S I R x182 x183 x184 x185 x186) fun x187 I48 =>
(rk_srd L xs (s3 + 1)).bind fun x188 =>
(rk_srd L xs (s3 + 2)).bind fun x189 =>
(rk_srd L xs (s3 + 3)).bind fun x190 =>
(rk_srd L xs (s3 + 4)).bind fun x191 =>
(rk_srd L xs (s3 + 5)).bind fun x192 =>
(rk_layM S R).bind fun _ =>
rk_b2 (f_X10_copy I48 x188 x189 x190 x191 x192) fun x193 I49 =>
if x187 = x193 then (
some (.inl ((s3 + 6), n, S, I49, J, R))) else (
some (.inr (.inr (0, n, S, I49, J, R))))) else
if (x1 &&& 31) = 29 then (
(rk_srd L xs (s3 + 1)).bind fun x194 =>
(rk_srd L xs (s3 + 2)).bind fun x195 =>
(rk_srd L xs (s3 + 3)).bind fun x196 =>
(rk_srd L xs (s3 + 4)).bind fun x197 =>
(rk_layC S R).bind fun _ =>
rk_b6 (f_X9_sales n S I J R x194 x195 x196 x197) fun x198 n4 S4 I50 J9 R13 =>
(rk_srd L xs (s3 + 1)).bind fun x199 =>
(rk_srd L xs (s3 + 2)).bind fun x200 =>
(rk_srd L xs (s3 + 3)).bind fun x201 =>
(rk_srd L xs (s3 + 4)).bind fun x202 =>
(rk_layM S4 R13).bind fun _ =>
rk_b2 (f_X10_sales I50 x199 x200 x201 x202) fun x203 I51 =>
if x198 = x203 then (
some (.inl ((s3 + 6), n4, S4, I51, J9, R13))) else (
some (.inr (.inr (0, n4, S4, I51, J9, R13))))) else
if (x1 &&& 31) = 30 then (
(rk_srd L xs (s3 + 1)).bind fun x204 =>
(rk_srd L xs (s3 + 2)).bind fun x205 =>
(rk_layC S R).bind fun _ =>
(f_X9_taken S I R x204 x205).bind fun x206 =>
(rk_srd L xs (s3 + 1)).bind fun x207 =>
(rk_srd L xs (s3 + 2)).bind fun x208 =>
(rk_layM S R).bind fun _ =>
(f_X10_taken I x207 x208).bind fun x209 =>
if x206 = x209 then (
some (.inl ((s3 + 6), n, S, I, J, R))) else (
some (.inr (.inr (0, n, S, I, J, R))))) else
some (.inl ((s3 + 6), n, S, I, J, R)))
theorem b_L_law_1000000_l18 {G : rk_G} {l : Launch} {d kc ks : Nat} {n : Nat} {S : rk_Sh} {I : rk_I} {J : rk_J} {R : rk_R} {Q : rk_Q} {s3 : Int32} {r : (Int32 × Nat × rk_Sh × rk_I × rk_J × rk_R) ⊕ ((Int32 × Nat × rk_Sh × rk_I × rk_J × rk_R) ⊕ (Int32 × Nat × rk_Sh × rk_I × rk_J × rk_R))} (hd : 69 ≤ d) (hf : f_L_law_1000000_l18 G.2.2.2.2.2.1 G.2.2.2.2.2.2 n S I J R s3 = some r) (hc : ∀ (w0 : Int32) (n9 : Nat) (S9 : rk_Sh) (I9 : rk_I) (J9 : rk_J) (R9 : rk_R), r = .inl (w0, n9, S9, I9, J9, R9) → AW G l yL_law cL_law 4 (some .boolean) d kc ks 18 [some (.ref 1000000), some (.ref 0), some (.ref 31), some (.int w0)] [] n9 S9 I9 J9 R9 Q) (he : ∀ (w0 : Int32) (n9 : Nat) (S9 : rk_Sh) (I9 : rk_I) (J9 : rk_J) (R9 : rk_R), r = .inr (.inl (w0, n9, S9, I9, J9, R9)) → AW G l yL_law cL_law 4 (some .boolean) d kc ks 1337 [some (.ref 1000000), some (.ref 0), some (.ref 31), some (.int w0)] [] n9 S9 I9 J9 R9 Q) (hq : ∀ (v9 : Int32) (n9 : Nat) (S9 : rk_Sh) (I9 : rk_I) (J9 : rk_J) (R9 : rk_R), r = .inr (.inr (v9, n9, S9, I9, J9, R9)) → Q (some (.int v9)) n9 S9 I9 J9 R9) :
    AW G l yL_law cL_law 4 (some .boolean) d (kc + 9) (ks + 322) 18 [some (.ref 1000000), some (.ref 0), some (.ref 31), some (.int s3)] [] n S I J R Q := by
  unfold f_L_law_1000000_l18 at hf
  refine AW_iload_n3 dL_law_18 ?_
  refine AW_aload_n0 dL_law_19 ?_
  refine AW_srlen dL_law_20 ?_
  refine AW_bipush (v := 6) dL_law_21 (by decide) ?_
  refine AW_isub dL_law_23 ?_
  refine AW_icmp_gt 1337 dL_law_24 (by decide) (fun h1 => ?_) (fun h1 => ?_)
  · replace hf := rk_it hf h1
    refine AW_sb (rk_sbs (rk_sbs (rk_sbs (rk_sbs rk_sb0)))) ?_
    refine AW_wid (a := 9) (b := 322) ?_
    exact he _ _ _ _ _ _ (Option.some.inj hf).symm
  · replace hf := rk_if hf h1
    refine AW_aload_n0 dL_law_27 ?_
    refine AW_iload_n3 dL_law_28 ?_
    replace hf := rk_bd hf
    obtain ⟨x1, e1, hf⟩ := hf
    refine AW_srd dL_law_29 e1 ?_
    refine AW_bipush (v := 31) dL_law_30 (by decide) ?_
    refine AW_iand dL_law_32 ?_
    by_cases h2 : (x1 &&& 31) = 0
    · replace hf := rk_it hf h2
      refine AW_tableIn 172 dL_law_33 (by rw [h2]; decide) (by rw [h2]; decide) (by rw [h2]; rfl) (by decide) ?_
      refine AW_aload_n1 dL_law_172 ?_
      refine AW_aload_n0 dL_law_173 ?_
      refine AW_iload_n3 dL_law_174 ?_
      refine AW_iconst (v := 1) dL_law_175 (by decide) ?_
      refine AW_iadd dL_law_176 ?_
      replace hf := rk_bd hf
      obtain ⟨x2, e2, hf⟩ := hf
      refine AW_srd dL_law_177 e2 ?_
      refine AW_aload_n0 dL_law_178 ?_
      refine AW_iload_n3 dL_law_179 ?_
      refine AW_iconst (v := 2) dL_law_180 (by decide) ?_
      refine AW_iadd dL_law_181 ?_
      replace hf := rk_bd hf
      obtain ⟨x3, e3, hf⟩ := hf
      refine AW_srd dL_law_182 e3 ?_
      replace hf := rk_bd hf
      obtain ⟨_, e4, hf⟩ := hf
      have e4 := rk_layC_sp e4
      replace hf := rk_bd6 hf
      obtain ⟨x4, n1, S1, I1, J1, R1, e5, hf⟩ := hf
      refine AW_iV2i (kc := kc + 6) (ks := ks + 311) (w_X9_cargo (d := 2) (Nat.le_refl _) e4 e5) dL_law_183 kl_L_13 (e4.1 0 (by decide)) rfl (Nat.le_trans (by decide) hd) (by decide) (Nat.le_of_ble_eq_true rfl) (fun hL1 => ?_)
      refine AW_aload_n2 dL_law_186 ?_
      refine AW_aload_n0 dL_law_187 ?_
      refine AW_iload_n3 dL_law_188 ?_
      refine AW_iconst (v := 1) dL_law_189 (by decide) ?_
      refine AW_iadd dL_law_190 ?_
      replace hf := rk_bd hf
      obtain ⟨x5, e6, hf⟩ := hf
      refine AW_srd dL_law_191 e6 ?_
      refine AW_aload_n0 dL_law_192 ?_
      refine AW_iload_n3 dL_law_193 ?_
      refine AW_iconst (v := 2) dL_law_194 (by decide) ?_
      refine AW_iadd dL_law_195 ?_
      replace hf := rk_bd hf
      obtain ⟨x6, e7, hf⟩ := hf
      refine AW_srd dL_law_196 e7 ?_
      replace hf := rk_bd hf
      obtain ⟨_, e8, hf⟩ := hf
      have e8 := rk_layM_sp e8
      replace hf := rk_bd2 hf
      obtain ⟨x7, I2, e9, hf⟩ := hf
      refine AW_iV2iz (w_X10_cargo (d := 2) (Nat.le_refl _) e8 e9) dL_law_197 kl_L_17 (e8.1 31 (by decide) (by decide)) rfl (Nat.le_trans (by decide) hd) (by decide) (Nat.le_of_ble_eq_true rfl) (fun _ => ?_)
      refine AW_icmp_eq 1331 dL_law_200 (by decide) (fun h3 => ?_) (fun h3 => ?_)
      · replace hf := rk_it hf h3
        refine AW_iinc_3 (v := 6) dL_law_1331 (by decide) (by decide) rfl ?_
        refine AW_goto 18 dL_law_1334 (by decide) ?_
        refine AW_sb (rk_sbs (rk_sbs (rk_sbs (rk_sbs rk_sb0)))) ?_
        refine AW_wid (a := 6) (b := 311) ?_
        exact hc _ _ _ _ _ _ (Option.some.inj hf).symm
      · replace hf := rk_if hf h3
        refine AW_iconst (v := 0) dL_law_203 (by decide) ?_
        exact AW_zret dL_law_204 rfl rfl (hq _ _ _ _ _ _ (Option.some.inj hf).symm)
    replace hf := rk_if hf h2
    by_cases h4 : (x1 &&& 31) = 1
    · replace hf := rk_it hf h4
      refine AW_tableIn 205 dL_law_33 (by rw [h4]; decide) (by rw [h4]; decide) (by rw [h4]; rfl) (by decide) ?_
      refine AW_aload_n1 dL_law_205 ?_
      refine AW_aload_n0 dL_law_206 ?_
      refine AW_iload_n3 dL_law_207 ?_
      refine AW_iconst (v := 1) dL_law_208 (by decide) ?_
      refine AW_iadd dL_law_209 ?_
      replace hf := rk_bd hf
      obtain ⟨x8, e10, hf⟩ := hf
      refine AW_srd dL_law_210 e10 ?_
      refine AW_aload_n0 dL_law_211 ?_
      refine AW_iload_n3 dL_law_212 ?_
      refine AW_iconst (v := 2) dL_law_213 (by decide) ?_
      refine AW_iadd dL_law_214 ?_
      replace hf := rk_bd hf
      obtain ⟨x9, e11, hf⟩ := hf
      refine AW_srd dL_law_215 e11 ?_
      refine AW_aload_n0 dL_law_216 ?_
      refine AW_iload_n3 dL_law_217 ?_
      refine AW_iconst (v := 3) dL_law_218 (by decide) ?_
      refine AW_iadd dL_law_219 ?_
      replace hf := rk_bd hf
      obtain ⟨x10, e12, hf⟩ := hf
      refine AW_srd dL_law_220 e12 ?_
      replace hf := rk_bd hf
      obtain ⟨_, e13, hf⟩ := hf
      have e13 := rk_layC_sp e13
      replace hf := rk_bd2 hf
      obtain ⟨x11, I3, e14, hf⟩ := hf
      refine AW_iV3iz (w_X9_hour (d := 2) (Nat.le_refl _) e13 e14) dL_law_221 kl_L_18 (e13.1 0 (by decide)) rfl (Nat.le_trans (by decide) hd) (by decide) (Nat.le_of_ble_eq_true rfl) (fun _ => ?_)
      refine AW_aload_n2 dL_law_224 ?_
      refine AW_aload_n0 dL_law_225 ?_
      refine AW_iload_n3 dL_law_226 ?_
      refine AW_iconst (v := 1) dL_law_227 (by decide) ?_
      refine AW_iadd dL_law_228 ?_
      replace hf := rk_bd hf
      obtain ⟨x12, e15, hf⟩ := hf
      refine AW_srd dL_law_229 e15 ?_
      refine AW_aload_n0 dL_law_230 ?_
      refine AW_iload_n3 dL_law_231 ?_
      refine AW_iconst (v := 2) dL_law_232 (by decide) ?_
      refine AW_iadd dL_law_233 ?_
      replace hf := rk_bd hf
      obtain ⟨x13, e16, hf⟩ := hf
      refine AW_srd dL_law_234 e16 ?_
      refine AW_aload_n0 dL_law_235 ?_
      refine AW_iload_n3 dL_law_236 ?_
      refine AW_iconst (v := 3) dL_law_237 (by decide) ?_
      refine AW_iadd dL_law_238 ?_
      replace hf := rk_bd hf
      obtain ⟨x14, e17, hf⟩ := hf
      refine AW_srd dL_law_239 e17 ?_
      replace hf := rk_bd hf
      obtain ⟨_, e18, hf⟩ := hf
      have e18 := rk_layM_sp e18
      replace hf := rk_bd2 hf
      obtain ⟨x15, I4, e19, hf⟩ := hf
      refine AW_iV3iz (w_X10_hour (d := 2) (Nat.le_refl _) e18 e19) dL_law_240 kl_L_22 (e18.1 31 (by decide) (by decide)) rfl (Nat.le_trans (by decide) hd) (by decide) (Nat.le_of_ble_eq_true rfl) (fun _ => ?_)
      refine AW_icmp_eq 1331 dL_law_243 (by decide) (fun h5 => ?_) (fun h5 => ?_)
      · replace hf := rk_it hf h5
        refine AW_iinc_3 (v := 6) dL_law_1331 (by decide) (by decide) rfl ?_
        refine AW_goto 18 dL_law_1334 (by decide) ?_
        refine AW_sb (rk_sbs (rk_sbs (rk_sbs (rk_sbs rk_sb0)))) ?_
        refine AW_wid (a := 9) (b := 322) ?_
        exact hc _ _ _ _ _ _ (Option.some.inj hf).symm
      · replace hf := rk_if hf h5
        refine AW_iconst (v := 0) dL_law_246 (by decide) ?_
        exact AW_zret dL_law_247 rfl rfl (hq _ _ _ _ _ _ (Option.some.inj hf).symm)
    replace hf := rk_if hf h4
    by_cases h6 : (x1 &&& 31) = 2
    · replace hf := rk_it hf h6
      refine AW_tableIn 248 dL_law_33 (by rw [h6]; decide) (by rw [h6]; decide) (by rw [h6]; rfl) (by decide) ?_
      refine AW_aload_n1 dL_law_248 ?_
      refine AW_aload_n0 dL_law_249 ?_
      refine AW_iload_n3 dL_law_250 ?_
      refine AW_iconst (v := 1) dL_law_251 (by decide) ?_
      refine AW_iadd dL_law_252 ?_
      replace hf := rk_bd hf
      obtain ⟨x16, e20, hf⟩ := hf
      refine AW_srd dL_law_253 e20 ?_
      refine AW_aload_n0 dL_law_254 ?_
      refine AW_iload_n3 dL_law_255 ?_
      refine AW_iconst (v := 2) dL_law_256 (by decide) ?_
      refine AW_iadd dL_law_257 ?_
      replace hf := rk_bd hf
      obtain ⟨x17, e21, hf⟩ := hf
      refine AW_srd dL_law_258 e21 ?_
      refine AW_aload_n0 dL_law_259 ?_
      refine AW_iload_n3 dL_law_260 ?_
      refine AW_iconst (v := 3) dL_law_261 (by decide) ?_
      refine AW_iadd dL_law_262 ?_
      replace hf := rk_bd hf
      obtain ⟨x18, e22, hf⟩ := hf
      refine AW_srd dL_law_263 e22 ?_
      refine AW_aload_n0 dL_law_264 ?_
      refine AW_iload_n3 dL_law_265 ?_
      refine AW_iconst (v := 4) dL_law_266 (by decide) ?_
      refine AW_iadd dL_law_267 ?_
      replace hf := rk_bd hf
      obtain ⟨x19, e23, hf⟩ := hf
      refine AW_srd dL_law_268 e23 ?_
      refine AW_aload_n0 dL_law_269 ?_
      refine AW_iload_n3 dL_law_270 ?_
      refine AW_iconst (v := 5) dL_law_271 (by decide) ?_
      refine AW_iadd dL_law_272 ?_
      replace hf := rk_bd hf
      obtain ⟨x20, e24, hf⟩ := hf
      refine AW_srd dL_law_273 e24 ?_
      replace hf := rk_bd hf
      obtain ⟨_, e25, hf⟩ := hf
      have e25 := rk_layC_sp e25
      replace hf := rk_bd6 hf
      obtain ⟨x21, n2, S2, I5, J2, R2, e26, hf⟩ := hf
      refine AW_iV5i (kc := kc + 8) (ks := ks + 311) (w_X9_sale (d := 2) (Nat.le_refl _) e25 e26) dL_law_274 kl_L_23 (e25.1 0 (by decide)) rfl (Nat.le_trans (by decide) hd) (by decide) (Nat.le_of_ble_eq_true rfl) (fun hL2 => ?_)
      refine AW_aload_n2 dL_law_277 ?_
      refine AW_aload_n0 dL_law_278 ?_
      refine AW_iload_n3 dL_law_279 ?_
      refine AW_iconst (v := 1) dL_law_280 (by decide) ?_
      refine AW_iadd dL_law_281 ?_
      replace hf := rk_bd hf
      obtain ⟨x22, e27, hf⟩ := hf
      refine AW_srd dL_law_282 e27 ?_
      refine AW_aload_n0 dL_law_283 ?_
      refine AW_iload_n3 dL_law_284 ?_
      refine AW_iconst (v := 2) dL_law_285 (by decide) ?_
      refine AW_iadd dL_law_286 ?_
      replace hf := rk_bd hf
      obtain ⟨x23, e28, hf⟩ := hf
      refine AW_srd dL_law_287 e28 ?_
      refine AW_aload_n0 dL_law_288 ?_
      refine AW_iload_n3 dL_law_289 ?_
      refine AW_iconst (v := 3) dL_law_290 (by decide) ?_
      refine AW_iadd dL_law_291 ?_
      replace hf := rk_bd hf
      obtain ⟨x24, e29, hf⟩ := hf
      refine AW_srd dL_law_292 e29 ?_
      refine AW_aload_n0 dL_law_293 ?_
      refine AW_iload_n3 dL_law_294 ?_
      refine AW_iconst (v := 4) dL_law_295 (by decide) ?_
      refine AW_iadd dL_law_296 ?_
      replace hf := rk_bd hf
      obtain ⟨x25, e30, hf⟩ := hf
      refine AW_srd dL_law_297 e30 ?_
      refine AW_aload_n0 dL_law_298 ?_
      refine AW_iload_n3 dL_law_299 ?_
      refine AW_iconst (v := 5) dL_law_300 (by decide) ?_
      refine AW_iadd dL_law_301 ?_
      replace hf := rk_bd hf
      obtain ⟨x26, e31, hf⟩ := hf
      refine AW_srd dL_law_302 e31 ?_
      replace hf := rk_bd hf
      obtain ⟨_, e32, hf⟩ := hf
      have e32 := rk_layM_sp e32
      replace hf := rk_bd2 hf
      obtain ⟨x27, I6, e33, hf⟩ := hf
      refine AW_iV5iz (w_X10_sale (d := 2) (Nat.le_refl _) e32 e33) dL_law_303 kl_L_27 (e32.1 31 (by decide) (by decide)) rfl (Nat.le_trans (by decide) hd) (by decide) (Nat.le_of_ble_eq_true rfl) (fun _ => ?_)
      refine AW_icmp_eq 1331 dL_law_306 (by decide) (fun h7 => ?_) (fun h7 => ?_)
      · replace hf := rk_it hf h7
        refine AW_iinc_3 (v := 6) dL_law_1331 (by decide) (by decide) rfl ?_
        refine AW_goto 18 dL_law_1334 (by decide) ?_
        refine AW_sb (rk_sbs (rk_sbs (rk_sbs (rk_sbs rk_sb0)))) ?_
        refine AW_wid (a := 8) (b := 311) ?_
        exact hc _ _ _ _ _ _ (Option.some.inj hf).symm
      · replace hf := rk_if hf h7
        refine AW_iconst (v := 0) dL_law_309 (by decide) ?_
        exact AW_zret dL_law_310 rfl rfl (hq _ _ _ _ _ _ (Option.some.inj hf).symm)
    replace hf := rk_if hf h6
    by_cases h8 : (x1 &&& 31) = 3
    · replace hf := rk_it hf h8
      refine AW_tableIn 311 dL_law_33 (by rw [h8]; decide) (by rw [h8]; decide) (by rw [h8]; rfl) (by decide) ?_
      refine AW_aload_n1 dL_law_311 ?_
      refine AW_aload_n0 dL_law_312 ?_
      refine AW_iload_n3 dL_law_313 ?_
      refine AW_iconst (v := 1) dL_law_314 (by decide) ?_
      refine AW_iadd dL_law_315 ?_
      replace hf := rk_bd hf
      obtain ⟨x28, e34, hf⟩ := hf
      refine AW_srd dL_law_316 e34 ?_
      refine AW_aload_n0 dL_law_317 ?_
      refine AW_iload_n3 dL_law_318 ?_
      refine AW_iconst (v := 2) dL_law_319 (by decide) ?_
      refine AW_iadd dL_law_320 ?_
      replace hf := rk_bd hf
      obtain ⟨x29, e35, hf⟩ := hf
      refine AW_srd dL_law_321 e35 ?_
      replace hf := rk_bd hf
      obtain ⟨_, e36, hf⟩ := hf
      have e36 := rk_layC_sp e36
      replace hf := rk_bd2 hf
      obtain ⟨x30, I7, e37, hf⟩ := hf
      refine AW_iV2iz (w_X9_paper (d := 2) (Nat.le_refl _) e36 e37) dL_law_322 kl_L_28 (e36.1 0 (by decide)) rfl (Nat.le_trans (by decide) hd) (by decide) (Nat.le_of_ble_eq_true rfl) (fun _ => ?_)
      refine AW_aload_n2 dL_law_325 ?_
      refine AW_aload_n0 dL_law_326 ?_
      refine AW_iload_n3 dL_law_327 ?_
      refine AW_iconst (v := 1) dL_law_328 (by decide) ?_
      refine AW_iadd dL_law_329 ?_
      replace hf := rk_bd hf
      obtain ⟨x31, e38, hf⟩ := hf
      refine AW_srd dL_law_330 e38 ?_
      refine AW_aload_n0 dL_law_331 ?_
      refine AW_iload_n3 dL_law_332 ?_
      refine AW_iconst (v := 2) dL_law_333 (by decide) ?_
      refine AW_iadd dL_law_334 ?_
      replace hf := rk_bd hf
      obtain ⟨x32, e39, hf⟩ := hf
      refine AW_srd dL_law_335 e39 ?_
      replace hf := rk_bd hf
      obtain ⟨_, e40, hf⟩ := hf
      have e40 := rk_layM_sp e40
      replace hf := rk_bd2 hf
      obtain ⟨x33, I8, e41, hf⟩ := hf
      refine AW_iV2iz (w_X10_paper (d := 2) (Nat.le_refl _) e40 e41) dL_law_336 kl_L_31 (e40.1 31 (by decide) (by decide)) rfl (Nat.le_trans (by decide) hd) (by decide) (Nat.le_of_ble_eq_true rfl) (fun _ => ?_)
      refine AW_icmp_eq 1331 dL_law_339 (by decide) (fun h9 => ?_) (fun h9 => ?_)
      · replace hf := rk_it hf h9
        refine AW_iinc_3 (v := 6) dL_law_1331 (by decide) (by decide) rfl ?_
        refine AW_goto 18 dL_law_1334 (by decide) ?_
        refine AW_sb (rk_sbs (rk_sbs (rk_sbs (rk_sbs rk_sb0)))) ?_
        refine AW_wid (a := 9) (b := 322) ?_
        exact hc _ _ _ _ _ _ (Option.some.inj hf).symm
      · replace hf := rk_if hf h9
        refine AW_iconst (v := 0) dL_law_342 (by decide) ?_
        exact AW_zret dL_law_343 rfl rfl (hq _ _ _ _ _ _ (Option.some.inj hf).symm)
    replace hf := rk_if hf h8
    by_cases h10 : (x1 &&& 31) = 4
    · replace hf := rk_it hf h10
      refine AW_tableIn 344 dL_law_33 (by rw [h10]; decide) (by rw [h10]; decide) (by rw [h10]; rfl) (by decide) ?_
      refine AW_aload_n1 dL_law_344 ?_
      refine AW_aload_n0 dL_law_345 ?_
      refine AW_iload_n3 dL_law_346 ?_
      refine AW_iconst (v := 1) dL_law_347 (by decide) ?_
      refine AW_iadd dL_law_348 ?_
      replace hf := rk_bd hf
      obtain ⟨x34, e42, hf⟩ := hf
      refine AW_srd dL_law_349 e42 ?_
      refine AW_aload_n0 dL_law_350 ?_
      refine AW_iload_n3 dL_law_351 ?_
      refine AW_iconst (v := 2) dL_law_352 (by decide) ?_
      refine AW_iadd dL_law_353 ?_
      replace hf := rk_bd hf
      obtain ⟨x35, e43, hf⟩ := hf
      refine AW_srd dL_law_354 e43 ?_
      replace hf := rk_bd hf
      obtain ⟨_, e44, hf⟩ := hf
      have e44 := rk_layC_sp e44
      replace hf := rk_bd2 hf
      obtain ⟨x36, I9, e45, hf⟩ := hf
      refine AW_iV2iz (w_X9_pay (d := 1) (Nat.le_refl _) e44 e45) dL_law_355 kl_L_32 (e44.1 0 (by decide)) rfl (Nat.le_trans (by decide) hd) (by decide) (Nat.le_of_ble_eq_true rfl) (fun _ => ?_)
      refine AW_aload_n2 dL_law_358 ?_
      refine AW_aload_n0 dL_law_359 ?_
      refine AW_iload_n3 dL_law_360 ?_
      refine AW_iconst (v := 1) dL_law_361 (by decide) ?_
      refine AW_iadd dL_law_362 ?_
      replace hf := rk_bd hf
      obtain ⟨x37, e46, hf⟩ := hf
      refine AW_srd dL_law_363 e46 ?_
      refine AW_aload_n0 dL_law_364 ?_
      refine AW_iload_n3 dL_law_365 ?_
      refine AW_iconst (v := 2) dL_law_366 (by decide) ?_
      refine AW_iadd dL_law_367 ?_
      replace hf := rk_bd hf
      obtain ⟨x38, e47, hf⟩ := hf
      refine AW_srd dL_law_368 e47 ?_
      replace hf := rk_bd hf
      obtain ⟨_, e48, hf⟩ := hf
      have e48 := rk_layM_sp e48
      replace hf := rk_bd2 hf
      obtain ⟨x39, I10, e49, hf⟩ := hf
      refine AW_iV2iz (w_X10_pay (d := 2) (Nat.le_refl _) e48 e49) dL_law_369 kl_L_35 (e48.1 31 (by decide) (by decide)) rfl (Nat.le_trans (by decide) hd) (by decide) (Nat.le_of_ble_eq_true rfl) (fun _ => ?_)
      refine AW_icmp_eq 1331 dL_law_372 (by decide) (fun h11 => ?_) (fun h11 => ?_)
      · replace hf := rk_it hf h11
        refine AW_iinc_3 (v := 6) dL_law_1331 (by decide) (by decide) rfl ?_
        refine AW_goto 18 dL_law_1334 (by decide) ?_
        refine AW_sb (rk_sbs (rk_sbs (rk_sbs (rk_sbs rk_sb0)))) ?_
        refine AW_wid (a := 9) (b := 322) ?_
        exact hc _ _ _ _ _ _ (Option.some.inj hf).symm
      · replace hf := rk_if hf h11
        refine AW_iconst (v := 0) dL_law_375 (by decide) ?_
        exact AW_zret dL_law_376 rfl rfl (hq _ _ _ _ _ _ (Option.some.inj hf).symm)
    replace hf := rk_if hf h10
    by_cases h12 : (x1 &&& 31) = 5
    · replace hf := rk_it hf h12
      refine AW_tableIn 377 dL_law_33 (by rw [h12]; decide) (by rw [h12]; decide) (by rw [h12]; rfl) (by decide) ?_
      refine AW_aload_n1 dL_law_377 ?_
      refine AW_aload_n0 dL_law_378 ?_
      refine AW_iload_n3 dL_law_379 ?_
      refine AW_iconst (v := 1) dL_law_380 (by decide) ?_
      refine AW_iadd dL_law_381 ?_
      replace hf := rk_bd hf
      obtain ⟨x40, e50, hf⟩ := hf
      refine AW_srd dL_law_382 e50 ?_
      refine AW_aload_n0 dL_law_383 ?_
      refine AW_iload_n3 dL_law_384 ?_
      refine AW_iconst (v := 2) dL_law_385 (by decide) ?_
      refine AW_iadd dL_law_386 ?_
      replace hf := rk_bd hf
      obtain ⟨x41, e51, hf⟩ := hf
      refine AW_srd dL_law_387 e51 ?_
      replace hf := rk_bd hf
      obtain ⟨_, e52, hf⟩ := hf
      have e52 := rk_layC_sp e52
      replace hf := rk_bd hf
      obtain ⟨x42, e53, hf⟩ := hf
      refine AW_iV2iz (w_X9_told (d := 4) (Nat.le_refl _) e52 e53) dL_law_388 kl_L_36 (e52.1 0 (by decide)) rfl (Nat.le_trans (by decide) hd) (by decide) (Nat.le_of_ble_eq_true rfl) (fun _ => ?_)
      refine AW_aload_n2 dL_law_391 ?_
      refine AW_aload_n0 dL_law_392 ?_
      refine AW_iload_n3 dL_law_393 ?_
      refine AW_iconst (v := 1) dL_law_394 (by decide) ?_
      refine AW_iadd dL_law_395 ?_
      replace hf := rk_bd hf
      obtain ⟨x43, e54, hf⟩ := hf
      refine AW_srd dL_law_396 e54 ?_
      refine AW_aload_n0 dL_law_397 ?_
      refine AW_iload_n3 dL_law_398 ?_
      refine AW_iconst (v := 2) dL_law_399 (by decide) ?_
      refine AW_iadd dL_law_400 ?_
      replace hf := rk_bd hf
      obtain ⟨x44, e55, hf⟩ := hf
      refine AW_srd dL_law_401 e55 ?_
      replace hf := rk_bd hf
      obtain ⟨_, e56, hf⟩ := hf
      have e56 := rk_layM_sp e56
      replace hf := rk_bd hf
      obtain ⟨x45, e57, hf⟩ := hf
      refine AW_iV2iz (w_X10_told (d := 4) (Nat.le_refl _) e56 e57) dL_law_402 kl_L_39 (e56.1 31 (by decide) (by decide)) rfl (Nat.le_trans (by decide) hd) (by decide) (Nat.le_of_ble_eq_true rfl) (fun _ => ?_)
      refine AW_icmp_eq 1331 dL_law_405 (by decide) (fun h13 => ?_) (fun h13 => ?_)
      · replace hf := rk_it hf h13
        refine AW_iinc_3 (v := 6) dL_law_1331 (by decide) (by decide) rfl ?_
        refine AW_goto 18 dL_law_1334 (by decide) ?_
        refine AW_sb (rk_sbs (rk_sbs (rk_sbs (rk_sbs rk_sb0)))) ?_
        refine AW_wid (a := 9) (b := 322) ?_
        exact hc _ _ _ _ _ _ (Option.some.inj hf).symm
      · replace hf := rk_if hf h13
        refine AW_iconst (v := 0) dL_law_408 (by decide) ?_
        exact AW_zret dL_law_409 rfl rfl (hq _ _ _ _ _ _ (Option.some.inj hf).symm)
    replace hf := rk_if hf h12
    by_cases h14 : (x1 &&& 31) = 6
    · replace hf := rk_it hf h14
      refine AW_tableIn 410 dL_law_33 (by rw [h14]; decide) (by rw [h14]; decide) (by rw [h14]; rfl) (by decide) ?_
      refine AW_aload_n1 dL_law_410 ?_
      refine AW_aload_n0 dL_law_411 ?_
      refine AW_iload_n3 dL_law_412 ?_
      refine AW_iconst (v := 1) dL_law_413 (by decide) ?_
      refine AW_iadd dL_law_414 ?_
      replace hf := rk_bd hf
      obtain ⟨x46, e58, hf⟩ := hf
      refine AW_srd dL_law_415 e58 ?_
      refine AW_aload_n0 dL_law_416 ?_
      refine AW_iload_n3 dL_law_417 ?_
      refine AW_iconst (v := 2) dL_law_418 (by decide) ?_
      refine AW_iadd dL_law_419 ?_
      replace hf := rk_bd hf
      obtain ⟨x47, e59, hf⟩ := hf
      refine AW_srd dL_law_420 e59 ?_
      refine AW_aload_n0 dL_law_421 ?_
      refine AW_iload_n3 dL_law_422 ?_
      refine AW_iconst (v := 3) dL_law_423 (by decide) ?_
      refine AW_iadd dL_law_424 ?_
      replace hf := rk_bd hf
      obtain ⟨x48, e60, hf⟩ := hf
      refine AW_srd dL_law_425 e60 ?_
      refine AW_aload_n0 dL_law_426 ?_
      refine AW_iload_n3 dL_law_427 ?_
      refine AW_iconst (v := 4) dL_law_428 (by decide) ?_
      refine AW_iadd dL_law_429 ?_
      replace hf := rk_bd hf
      obtain ⟨x49, e61, hf⟩ := hf
      refine AW_srd dL_law_430 e61 ?_
      replace hf := rk_bd hf
      obtain ⟨_, e62, hf⟩ := hf
      have e62 := rk_layC_sp e62
      replace hf := rk_bd3 hf
      obtain ⟨x50, I11, R3, e63, hf⟩ := hf
      refine AW_iV4iz (w_X9_whose (d := 6) (Nat.le_refl _) e62 e63) dL_law_431 kl_L_40 (e62.1 0 (by decide)) rfl (Nat.le_trans (by decide) hd) (by decide) (Nat.le_of_ble_eq_true rfl) (fun hL3 => ?_)
      refine AW_aload_n2 dL_law_434 ?_
      refine AW_aload_n0 dL_law_435 ?_
      refine AW_iload_n3 dL_law_436 ?_
      refine AW_iconst (v := 1) dL_law_437 (by decide) ?_
      refine AW_iadd dL_law_438 ?_
      replace hf := rk_bd hf
      obtain ⟨x51, e64, hf⟩ := hf
      refine AW_srd dL_law_439 e64 ?_
      refine AW_aload_n0 dL_law_440 ?_
      refine AW_iload_n3 dL_law_441 ?_
      refine AW_iconst (v := 2) dL_law_442 (by decide) ?_
      refine AW_iadd dL_law_443 ?_
      replace hf := rk_bd hf
      obtain ⟨x52, e65, hf⟩ := hf
      refine AW_srd dL_law_444 e65 ?_
      refine AW_aload_n0 dL_law_445 ?_
      refine AW_iload_n3 dL_law_446 ?_
      refine AW_iconst (v := 3) dL_law_447 (by decide) ?_
      refine AW_iadd dL_law_448 ?_
      replace hf := rk_bd hf
      obtain ⟨x53, e66, hf⟩ := hf
      refine AW_srd dL_law_449 e66 ?_
      refine AW_aload_n0 dL_law_450 ?_
      refine AW_iload_n3 dL_law_451 ?_
      refine AW_iconst (v := 4) dL_law_452 (by decide) ?_
      refine AW_iadd dL_law_453 ?_
      replace hf := rk_bd hf
      obtain ⟨x54, e67, hf⟩ := hf
      refine AW_srd dL_law_454 e67 ?_
      replace hf := rk_bd hf
      obtain ⟨_, e68, hf⟩ := hf
      have e68 := rk_layM_sp e68
      replace hf := rk_bd2 hf
      obtain ⟨x55, I12, e69, hf⟩ := hf
      refine AW_iV4iz (w_X10_whose (d := 5) (Nat.le_refl _) e68 e69) dL_law_455 kl_L_44 (e68.1 31 (by decide) (by decide)) rfl (Nat.le_trans (by decide) hd) (by decide) (Nat.le_of_ble_eq_true rfl) (fun _ => ?_)
      refine AW_icmp_eq 1331 dL_law_458 (by decide) (fun h15 => ?_) (fun h15 => ?_)
      · replace hf := rk_it hf h15
        refine AW_iinc_3 (v := 6) dL_law_1331 (by decide) (by decide) rfl ?_
        refine AW_goto 18 dL_law_1334 (by decide) ?_
        refine AW_sb (rk_sbs (rk_sbs (rk_sbs (rk_sbs rk_sb0)))) ?_
        refine AW_wid (a := 9) (b := 322) ?_
        exact hc _ _ _ _ _ _ (Option.some.inj hf).symm
      · replace hf := rk_if hf h15
        refine AW_iconst (v := 0) dL_law_461 (by decide) ?_
        exact AW_zret dL_law_462 rfl rfl (hq _ _ _ _ _ _ (Option.some.inj hf).symm)
    replace hf := rk_if hf h14
    by_cases h16 : (x1 &&& 31) = 7
    · replace hf := rk_it hf h16
      refine AW_tableIn 463 dL_law_33 (by rw [h16]; decide) (by rw [h16]; decide) (by rw [h16]; rfl) (by decide) ?_
      refine AW_aload_n1 dL_law_463 ?_
      refine AW_aload_n0 dL_law_464 ?_
      refine AW_iload_n3 dL_law_465 ?_
      refine AW_iconst (v := 1) dL_law_466 (by decide) ?_
      refine AW_iadd dL_law_467 ?_
      replace hf := rk_bd hf
      obtain ⟨x56, e70, hf⟩ := hf
      refine AW_srd dL_law_468 e70 ?_
      refine AW_aload_n0 dL_law_469 ?_
      refine AW_iload_n3 dL_law_470 ?_
      refine AW_iconst (v := 2) dL_law_471 (by decide) ?_
      refine AW_iadd dL_law_472 ?_
      replace hf := rk_bd hf
      obtain ⟨x57, e71, hf⟩ := hf
      refine AW_srd dL_law_473 e71 ?_
      refine AW_aload_n0 dL_law_474 ?_
      refine AW_iload_n3 dL_law_475 ?_
      refine AW_iconst (v := 3) dL_law_476 (by decide) ?_
      refine AW_iadd dL_law_477 ?_
      replace hf := rk_bd hf
      obtain ⟨x58, e72, hf⟩ := hf
      refine AW_srd dL_law_478 e72 ?_
      refine AW_aload_n0 dL_law_479 ?_
      refine AW_iload_n3 dL_law_480 ?_
      refine AW_iconst (v := 4) dL_law_481 (by decide) ?_
      refine AW_iadd dL_law_482 ?_
      replace hf := rk_bd hf
      obtain ⟨x59, e73, hf⟩ := hf
      refine AW_srd dL_law_483 e73 ?_
      replace hf := rk_bd hf
      obtain ⟨_, e74, hf⟩ := hf
      have e74 := rk_layC_sp e74
      replace hf := rk_bd3 hf
      obtain ⟨x60, I13, R4, e75, hf⟩ := hf
      refine AW_iV4lz (w_X9_falls (d := 6) (Nat.le_refl _) e74 e75) dL_law_484 kl_L_45 (e74.1 0 (by decide)) rfl (Nat.le_trans (by decide) hd) (by decide) (Nat.le_of_ble_eq_true rfl) (fun hL4 => ?_)
      refine AW_aload_n2 dL_law_487 ?_
      refine AW_aload_n0 dL_law_488 ?_
      refine AW_iload_n3 dL_law_489 ?_
      refine AW_iconst (v := 1) dL_law_490 (by decide) ?_
      refine AW_iadd dL_law_491 ?_
      replace hf := rk_bd hf
      obtain ⟨x61, e76, hf⟩ := hf
      refine AW_srd dL_law_492 e76 ?_
      refine AW_aload_n0 dL_law_493 ?_
      refine AW_iload_n3 dL_law_494 ?_
      refine AW_iconst (v := 2) dL_law_495 (by decide) ?_
      refine AW_iadd dL_law_496 ?_
      replace hf := rk_bd hf
      obtain ⟨x62, e77, hf⟩ := hf
      refine AW_srd dL_law_497 e77 ?_
      refine AW_aload_n0 dL_law_498 ?_
      refine AW_iload_n3 dL_law_499 ?_
      refine AW_iconst (v := 3) dL_law_500 (by decide) ?_
      refine AW_iadd dL_law_501 ?_
      replace hf := rk_bd hf
      obtain ⟨x63, e78, hf⟩ := hf
      refine AW_srd dL_law_502 e78 ?_
      refine AW_aload_n0 dL_law_503 ?_
      refine AW_iload_n3 dL_law_504 ?_
      refine AW_iconst (v := 4) dL_law_505 (by decide) ?_
      refine AW_iadd dL_law_506 ?_
      replace hf := rk_bd hf
      obtain ⟨x64, e79, hf⟩ := hf
      refine AW_srd dL_law_507 e79 ?_
      replace hf := rk_bd hf
      obtain ⟨_, e80, hf⟩ := hf
      have e80 := rk_layM_sp e80
      replace hf := rk_bd2 hf
      obtain ⟨x65, I14, e81, hf⟩ := hf
      refine AW_iV4lz (w_X10_falls (d := 5) (Nat.le_refl _) e80 e81) dL_law_508 kl_L_49 (e80.1 31 (by decide) (by decide)) rfl (Nat.le_trans (by decide) hd) (by decide) (Nat.le_of_ble_eq_true rfl) (fun _ => ?_)
      refine AW_lcmp dL_law_511 ?_
      refine AW_if_eq 1331 dL_law_512 (by decide) (fun h17 => ?_) (fun h17 => ?_)
      · replace hf := rk_it hf h17
        refine AW_iinc_3 (v := 6) dL_law_1331 (by decide) (by decide) rfl ?_
        refine AW_goto 18 dL_law_1334 (by decide) ?_
        refine AW_sb (rk_sbs (rk_sbs (rk_sbs (rk_sbs rk_sb0)))) ?_
        refine AW_wid (a := 9) (b := 322) ?_
        exact hc _ _ _ _ _ _ (Option.some.inj hf).symm
      · replace hf := rk_if hf h17
        refine AW_iconst (v := 0) dL_law_515 (by decide) ?_
        exact AW_zret dL_law_516 rfl rfl (hq _ _ _ _ _ _ (Option.some.inj hf).symm)
    replace hf := rk_if hf h16
    by_cases h18 : (x1 &&& 31) = 8
    · replace hf := rk_it hf h18
      refine AW_tableIn 517 dL_law_33 (by rw [h18]; decide) (by rw [h18]; decide) (by rw [h18]; rfl) (by decide) ?_
      refine AW_aload_n1 dL_law_517 ?_
      refine AW_aload_n0 dL_law_518 ?_
      refine AW_iload_n3 dL_law_519 ?_
      refine AW_iconst (v := 1) dL_law_520 (by decide) ?_
      refine AW_iadd dL_law_521 ?_
      replace hf := rk_bd hf
      obtain ⟨x66, e82, hf⟩ := hf
      refine AW_srd dL_law_522 e82 ?_
      refine AW_aload_n0 dL_law_523 ?_
      refine AW_iload_n3 dL_law_524 ?_
      refine AW_iconst (v := 2) dL_law_525 (by decide) ?_
      refine AW_iadd dL_law_526 ?_
      replace hf := rk_bd hf
      obtain ⟨x67, e83, hf⟩ := hf
      refine AW_srd dL_law_527 e83 ?_
      refine AW_aload_n0 dL_law_528 ?_
      refine AW_iload_n3 dL_law_529 ?_
      refine AW_iconst (v := 3) dL_law_530 (by decide) ?_
      refine AW_iadd dL_law_531 ?_
      replace hf := rk_bd hf
      obtain ⟨x68, e84, hf⟩ := hf
      refine AW_srd dL_law_532 e84 ?_
      refine AW_aload_n0 dL_law_533 ?_
      refine AW_iload_n3 dL_law_534 ?_
      refine AW_iconst (v := 4) dL_law_535 (by decide) ?_
      refine AW_iadd dL_law_536 ?_
      replace hf := rk_bd hf
      obtain ⟨x69, e85, hf⟩ := hf
      refine AW_srd dL_law_537 e85 ?_
      replace hf := rk_bd hf
      obtain ⟨_, e86, hf⟩ := hf
      have e86 := rk_layC_sp e86
      replace hf := rk_bd3 hf
      obtain ⟨x70, I15, R5, e87, hf⟩ := hf
      refine AW_iV4iz (w_X9_between (d := 5) (Nat.le_refl _) e86 e87) dL_law_538 kl_L_50 (e86.1 0 (by decide)) rfl (Nat.le_trans (by decide) hd) (by decide) (Nat.le_of_ble_eq_true rfl) (fun hL5 => ?_)
      refine AW_aload_n2 dL_law_541 ?_
      refine AW_aload_n0 dL_law_542 ?_
      refine AW_iload_n3 dL_law_543 ?_
      refine AW_iconst (v := 1) dL_law_544 (by decide) ?_
      refine AW_iadd dL_law_545 ?_
      replace hf := rk_bd hf
      obtain ⟨x71, e88, hf⟩ := hf
      refine AW_srd dL_law_546 e88 ?_
      refine AW_aload_n0 dL_law_547 ?_
      refine AW_iload_n3 dL_law_548 ?_
      refine AW_iconst (v := 2) dL_law_549 (by decide) ?_
      refine AW_iadd dL_law_550 ?_
      replace hf := rk_bd hf
      obtain ⟨x72, e89, hf⟩ := hf
      refine AW_srd dL_law_551 e89 ?_
      refine AW_aload_n0 dL_law_552 ?_
      refine AW_iload_n3 dL_law_553 ?_
      refine AW_iconst (v := 3) dL_law_554 (by decide) ?_
      refine AW_iadd dL_law_555 ?_
      replace hf := rk_bd hf
      obtain ⟨x73, e90, hf⟩ := hf
      refine AW_srd dL_law_556 e90 ?_
      refine AW_aload_n0 dL_law_557 ?_
      refine AW_iload_n3 dL_law_558 ?_
      refine AW_iconst (v := 4) dL_law_559 (by decide) ?_
      refine AW_iadd dL_law_560 ?_
      replace hf := rk_bd hf
      obtain ⟨x74, e91, hf⟩ := hf
      refine AW_srd dL_law_561 e91 ?_
      replace hf := rk_bd hf
      obtain ⟨_, e92, hf⟩ := hf
      have e92 := rk_layM_sp e92
      replace hf := rk_bd2 hf
      obtain ⟨x75, I16, e93, hf⟩ := hf
      refine AW_iV4iz (w_X10_between (d := 5) (Nat.le_refl _) e92 e93) dL_law_562 kl_L_53 (e92.1 31 (by decide) (by decide)) rfl (Nat.le_trans (by decide) hd) (by decide) (Nat.le_of_ble_eq_true rfl) (fun _ => ?_)
      refine AW_icmp_eq 1331 dL_law_565 (by decide) (fun h19 => ?_) (fun h19 => ?_)
      · replace hf := rk_it hf h19
        refine AW_iinc_3 (v := 6) dL_law_1331 (by decide) (by decide) rfl ?_
        refine AW_goto 18 dL_law_1334 (by decide) ?_
        refine AW_sb (rk_sbs (rk_sbs (rk_sbs (rk_sbs rk_sb0)))) ?_
        refine AW_wid (a := 9) (b := 322) ?_
        exact hc _ _ _ _ _ _ (Option.some.inj hf).symm
      · replace hf := rk_if hf h19
        refine AW_iconst (v := 0) dL_law_568 (by decide) ?_
        exact AW_zret dL_law_569 rfl rfl (hq _ _ _ _ _ _ (Option.some.inj hf).symm)
    replace hf := rk_if hf h18
    by_cases h20 : (x1 &&& 31) = 9
    · replace hf := rk_it hf h20
      refine AW_tableIn 570 dL_law_33 (by rw [h20]; decide) (by rw [h20]; decide) (by rw [h20]; rfl) (by decide) ?_
      refine AW_aload_n1 dL_law_570 ?_
      refine AW_aload_n0 dL_law_571 ?_
      refine AW_iload_n3 dL_law_572 ?_
      refine AW_iconst (v := 1) dL_law_573 (by decide) ?_
      refine AW_iadd dL_law_574 ?_
      replace hf := rk_bd hf
      obtain ⟨x76, e94, hf⟩ := hf
      refine AW_srd dL_law_575 e94 ?_
      refine AW_aload_n0 dL_law_576 ?_
      refine AW_iload_n3 dL_law_577 ?_
      refine AW_iconst (v := 2) dL_law_578 (by decide) ?_
      refine AW_iadd dL_law_579 ?_
      replace hf := rk_bd hf
      obtain ⟨x77, e95, hf⟩ := hf
      refine AW_srd dL_law_580 e95 ?_
      refine AW_i2l dL_law_581 ?_
      refine AW_bipush (v := 32) dL_law_582 (by decide) ?_
      refine AW_lsl dL_law_584 ?_
      refine AW_aload_n0 dL_law_585 ?_
      refine AW_iload_n3 dL_law_586 ?_
      refine AW_iconst (v := 3) dL_law_587 (by decide) ?_
      refine AW_iadd dL_law_588 ?_
      replace hf := rk_bd hf
      obtain ⟨x78, e96, hf⟩ := hf
      refine AW_srd dL_law_589 e96 ?_
      refine AW_i2l dL_law_590 ?_
      refine AW_ldc2 dL_law_591 kv_L_54 ?_
      refine AW_land dL_law_594 ?_
      refine AW_lor dL_law_595 ?_
      replace hf := rk_bd hf
      obtain ⟨_, e97, hf⟩ := hf
      have e97 := rk_layC_sp e97
      replace hf := rk_bd2 hf
      obtain ⟨x79, I17, e98, hf⟩ := hf
      refine AW_iV2iz (w_X9_feed (d := 1) (Nat.le_refl _) e97 e98) dL_law_596 kl_L_56 (e97.1 0 (by decide)) rfl (Nat.le_trans (by decide) hd) (by decide) (Nat.le_of_ble_eq_true rfl) (fun _ => ?_)
      refine AW_aload_n2 dL_law_599 ?_
      refine AW_aload_n0 dL_law_600 ?_
      refine AW_iload_n3 dL_law_601 ?_
      refine AW_iconst (v := 1) dL_law_602 (by decide) ?_
      refine AW_iadd dL_law_603 ?_
      replace hf := rk_bd hf
      obtain ⟨x80, e99, hf⟩ := hf
      refine AW_srd dL_law_604 e99 ?_
      refine AW_aload_n0 dL_law_605 ?_
      refine AW_iload_n3 dL_law_606 ?_
      refine AW_iconst (v := 2) dL_law_607 (by decide) ?_
      refine AW_iadd dL_law_608 ?_
      replace hf := rk_bd hf
      obtain ⟨x81, e100, hf⟩ := hf
      refine AW_srd dL_law_609 e100 ?_
      refine AW_i2l dL_law_610 ?_
      refine AW_bipush (v := 32) dL_law_611 (by decide) ?_
      refine AW_lsl dL_law_613 ?_
      refine AW_aload_n0 dL_law_614 ?_
      refine AW_iload_n3 dL_law_615 ?_
      refine AW_iconst (v := 3) dL_law_616 (by decide) ?_
      refine AW_iadd dL_law_617 ?_
      replace hf := rk_bd hf
      obtain ⟨x82, e101, hf⟩ := hf
      refine AW_srd dL_law_618 e101 ?_
      refine AW_i2l dL_law_619 ?_
      refine AW_ldc2 dL_law_620 kv_L_54 ?_
      refine AW_land dL_law_623 ?_
      refine AW_lor dL_law_624 ?_
      replace hf := rk_bd hf
      obtain ⟨_, e102, hf⟩ := hf
      have e102 := rk_layM_sp e102
      replace hf := rk_bd2 hf
      obtain ⟨x83, I18, e103, hf⟩ := hf
      refine AW_iV2iz (w_X10_feed (d := 1) (Nat.le_refl _) e102 e103) dL_law_625 kl_L_60 (e102.1 31 (by decide) (by decide)) rfl (Nat.le_trans (by decide) hd) (by decide) (Nat.le_of_ble_eq_true rfl) (fun _ => ?_)
      refine AW_icmp_eq 1331 dL_law_628 (by decide) (fun h21 => ?_) (fun h21 => ?_)
      · replace hf := rk_it hf h21
        refine AW_iinc_3 (v := 6) dL_law_1331 (by decide) (by decide) rfl ?_
        refine AW_goto 18 dL_law_1334 (by decide) ?_
        refine AW_sb (rk_sbs (rk_sbs (rk_sbs (rk_sbs rk_sb0)))) ?_
        refine AW_wid (a := 9) (b := 322) ?_
        exact hc _ _ _ _ _ _ (Option.some.inj hf).symm
      · replace hf := rk_if hf h21
        refine AW_iconst (v := 0) dL_law_631 (by decide) ?_
        exact AW_zret dL_law_632 rfl rfl (hq _ _ _ _ _ _ (Option.some.inj hf).symm)
    replace hf := rk_if hf h20
    by_cases h22 : (x1 &&& 31) = 10
    · replace hf := rk_it hf h22
      refine AW_tableIn 633 dL_law_33 (by rw [h22]; decide) (by rw [h22]; decide) (by rw [h22]; rfl) (by decide) ?_
      refine AW_aload_n1 dL_law_633 ?_
      replace hf := rk_bd hf
      obtain ⟨_, e104, hf⟩ := hf
      have e104 := rk_layC_sp e104
      replace hf := rk_bd6 hf
      obtain ⟨x84, n3, S3, I19, J3, R6, e105, hf⟩ := hf
      refine AW_iV0i (kc := kc + 6) (ks := ks) (w_X9_text (d := 65) (Nat.le_refl _) e104 e105) dL_law_634 kl_L_61 (e104.1 0 (by decide)) rfl (Nat.le_trans (by decide) hd) (by decide) (Nat.le_of_ble_eq_true rfl) (fun hL6 => ?_)
      refine AW_aload_n2 dL_law_637 ?_
      replace hf := rk_bd hf
      obtain ⟨_, e106, hf⟩ := hf
      have e106 := rk_layM_sp e106
      replace hf := rk_bd3 hf
      obtain ⟨x85, I20, J4, e107, hf⟩ := hf
      refine AW_iV0iz (w_X10_text (d := 67) (Nat.le_refl _) e106 e107) dL_law_638 kl_L_65 (e106.1 31 (by decide) (by decide)) rfl (Nat.le_trans (by decide) hd) (by decide) (Nat.le_of_ble_eq_true rfl) (fun _ => ?_)
      refine AW_icmp_eq 1331 dL_law_641 (by decide) (fun h23 => ?_) (fun h23 => ?_)
      · replace hf := rk_it hf h23
        refine AW_iinc_3 (v := 6) dL_law_1331 (by decide) (by decide) rfl ?_
        refine AW_goto 18 dL_law_1334 (by decide) ?_
        refine AW_sb (rk_sbs (rk_sbs (rk_sbs (rk_sbs rk_sb0)))) ?_
        refine AW_wid (a := 6) (b := 0) ?_
        exact hc _ _ _ _ _ _ (Option.some.inj hf).symm
      · replace hf := rk_if hf h23
        refine AW_iconst (v := 0) dL_law_644 (by decide) ?_
        exact AW_zret dL_law_645 rfl rfl (hq _ _ _ _ _ _ (Option.some.inj hf).symm)
    replace hf := rk_if hf h22
    by_cases h24 : (x1 &&& 31) = 11
    · replace hf := rk_it hf h24
      refine AW_tableIn 646 dL_law_33 (by rw [h24]; decide) (by rw [h24]; decide) (by rw [h24]; rfl) (by decide) ?_
      refine AW_aload_n1 dL_law_646 ?_
      refine AW_aload_n0 dL_law_647 ?_
      refine AW_iload_n3 dL_law_648 ?_
      refine AW_iconst (v := 1) dL_law_649 (by decide) ?_
      refine AW_iadd dL_law_650 ?_
      replace hf := rk_bd hf
      obtain ⟨x86, e108, hf⟩ := hf
      refine AW_srd dL_law_651 e108 ?_
      replace hf := rk_bd hf
      obtain ⟨_, e109, hf⟩ := hf
      have e109 := rk_layC_sp e109
      replace hf := rk_bd2 hf
      obtain ⟨x87, I21, e110, hf⟩ := hf
      refine AW_iV1iz (w_X9_force (d := 0) e109 e110) dL_law_652 kl_L_66 (e109.1 0 (by decide)) rfl (Nat.le_trans (by decide) hd) (by decide) (Nat.le_of_ble_eq_true rfl) (fun _ => ?_)
      refine AW_aload_n2 dL_law_655 ?_
      refine AW_aload_n0 dL_law_656 ?_
      refine AW_iload_n3 dL_law_657 ?_
      refine AW_iconst (v := 1) dL_law_658 (by decide) ?_
      refine AW_iadd dL_law_659 ?_
      replace hf := rk_bd hf
      obtain ⟨x88, e111, hf⟩ := hf
      refine AW_srd dL_law_660 e111 ?_
      replace hf := rk_bd hf
      obtain ⟨_, e112, hf⟩ := hf
      have e112 := rk_layM_sp e112
      replace hf := rk_bd2 hf
      obtain ⟨x89, I22, e113, hf⟩ := hf
      refine AW_iV1iz (w_X10_force (d := 1) (Nat.le_refl _) e112 e113) dL_law_661 kl_L_70 (e112.1 31 (by decide) (by decide)) rfl (Nat.le_trans (by decide) hd) (by decide) (Nat.le_of_ble_eq_true rfl) (fun _ => ?_)
      refine AW_icmp_eq 1331 dL_law_664 (by decide) (fun h25 => ?_) (fun h25 => ?_)
      · replace hf := rk_it hf h25
        refine AW_iinc_3 (v := 6) dL_law_1331 (by decide) (by decide) rfl ?_
        refine AW_goto 18 dL_law_1334 (by decide) ?_
        refine AW_sb (rk_sbs (rk_sbs (rk_sbs (rk_sbs rk_sb0)))) ?_
        refine AW_wid (a := 9) (b := 322) ?_
        exact hc _ _ _ _ _ _ (Option.some.inj hf).symm
      · replace hf := rk_if hf h25
        refine AW_iconst (v := 0) dL_law_667 (by decide) ?_
        exact AW_zret dL_law_668 rfl rfl (hq _ _ _ _ _ _ (Option.some.inj hf).symm)
    replace hf := rk_if hf h24
    by_cases h26 : (x1 &&& 31) = 12
    · replace hf := rk_it hf h26
      refine AW_tableIn 669 dL_law_33 (by rw [h26]; decide) (by rw [h26]; decide) (by rw [h26]; rfl) (by decide) ?_
      refine AW_aload_n1 dL_law_669 ?_
      refine AW_aload_n0 dL_law_670 ?_
      refine AW_iload_n3 dL_law_671 ?_
      refine AW_iconst (v := 1) dL_law_672 (by decide) ?_
      refine AW_iadd dL_law_673 ?_
      replace hf := rk_bd hf
      obtain ⟨x90, e114, hf⟩ := hf
      refine AW_srd dL_law_674 e114 ?_
      refine AW_aload_n0 dL_law_675 ?_
      refine AW_iload_n3 dL_law_676 ?_
      refine AW_iconst (v := 2) dL_law_677 (by decide) ?_
      refine AW_iadd dL_law_678 ?_
      replace hf := rk_bd hf
      obtain ⟨x91, e115, hf⟩ := hf
      refine AW_srd dL_law_679 e115 ?_
      replace hf := rk_bd hf
      obtain ⟨_, e116, hf⟩ := hf
      have e116 := rk_layC_sp e116
      replace hf := rk_bd2 hf
      obtain ⟨x92, I23, e117, hf⟩ := hf
      refine AW_iV2lz (w_X9_owes (d := 6) (Nat.le_refl _) e116 e117) dL_law_680 kl_L_71 (e116.1 0 (by decide)) rfl (Nat.le_trans (by decide) hd) (by decide) (Nat.le_of_ble_eq_true rfl) (fun _ => ?_)
      refine AW_aload_n2 dL_law_683 ?_
      refine AW_aload_n0 dL_law_684 ?_
      refine AW_iload_n3 dL_law_685 ?_
      refine AW_iconst (v := 1) dL_law_686 (by decide) ?_
      refine AW_iadd dL_law_687 ?_
      replace hf := rk_bd hf
      obtain ⟨x93, e118, hf⟩ := hf
      refine AW_srd dL_law_688 e118 ?_
      refine AW_aload_n0 dL_law_689 ?_
      refine AW_iload_n3 dL_law_690 ?_
      refine AW_iconst (v := 2) dL_law_691 (by decide) ?_
      refine AW_iadd dL_law_692 ?_
      replace hf := rk_bd hf
      obtain ⟨x94, e119, hf⟩ := hf
      refine AW_srd dL_law_693 e119 ?_
      replace hf := rk_bd hf
      obtain ⟨_, e120, hf⟩ := hf
      have e120 := rk_layM_sp e120
      replace hf := rk_bd3 hf
      obtain ⟨x95, I24, J5, e121, hf⟩ := hf
      refine AW_iV2lz (w_X10_owes (d := 68) (Nat.le_refl _) e120 e121) dL_law_694 kl_L_75 (e120.1 31 (by decide) (by decide)) rfl (Nat.le_trans (by decide) hd) (by decide) (Nat.le_of_ble_eq_true rfl) (fun _ => ?_)
      refine AW_lcmp dL_law_697 ?_
      refine AW_if_eq 1331 dL_law_698 (by decide) (fun h27 => ?_) (fun h27 => ?_)
      · replace hf := rk_it hf h27
        refine AW_iinc_3 (v := 6) dL_law_1331 (by decide) (by decide) rfl ?_
        refine AW_goto 18 dL_law_1334 (by decide) ?_
        refine AW_sb (rk_sbs (rk_sbs (rk_sbs (rk_sbs rk_sb0)))) ?_
        refine AW_wid (a := 9) (b := 322) ?_
        exact hc _ _ _ _ _ _ (Option.some.inj hf).symm
      · replace hf := rk_if hf h27
        refine AW_iconst (v := 0) dL_law_701 (by decide) ?_
        exact AW_zret dL_law_702 rfl rfl (hq _ _ _ _ _ _ (Option.some.inj hf).symm)
    replace hf := rk_if hf h26
    by_cases h28 : (x1 &&& 31) = 13
    · replace hf := rk_it hf h28
      refine AW_tableIn 703 dL_law_33 (by rw [h28]; decide) (by rw [h28]; decide) (by rw [h28]; rfl) (by decide) ?_
      refine AW_aload_n1 dL_law_703 ?_
      refine AW_aload_n0 dL_law_704 ?_
      refine AW_iload_n3 dL_law_705 ?_
      refine AW_iconst (v := 1) dL_law_706 (by decide) ?_
      refine AW_iadd dL_law_707 ?_
      replace hf := rk_bd hf
      obtain ⟨x96, e122, hf⟩ := hf
      refine AW_srd dL_law_708 e122 ?_
      refine AW_aload_n0 dL_law_709 ?_
      refine AW_iload_n3 dL_law_710 ?_
      refine AW_iconst (v := 2) dL_law_711 (by decide) ?_
      refine AW_iadd dL_law_712 ?_
      replace hf := rk_bd hf
      obtain ⟨x97, e123, hf⟩ := hf
      refine AW_srd dL_law_713 e123 ?_
      replace hf := rk_bd hf
      obtain ⟨_, e124, hf⟩ := hf
      have e124 := rk_layC_sp e124
      replace hf := rk_bd2 hf
      obtain ⟨x98, I25, e125, hf⟩ := hf
      refine AW_iV2lz (w_X9_balance (d := 6) (Nat.le_refl _) e124 e125) dL_law_714 kl_L_76 (e124.1 0 (by decide)) rfl (Nat.le_trans (by decide) hd) (by decide) (Nat.le_of_ble_eq_true rfl) (fun _ => ?_)
      refine AW_aload_n2 dL_law_717 ?_
      refine AW_aload_n0 dL_law_718 ?_
      refine AW_iload_n3 dL_law_719 ?_
      refine AW_iconst (v := 1) dL_law_720 (by decide) ?_
      refine AW_iadd dL_law_721 ?_
      replace hf := rk_bd hf
      obtain ⟨x99, e126, hf⟩ := hf
      refine AW_srd dL_law_722 e126 ?_
      refine AW_aload_n0 dL_law_723 ?_
      refine AW_iload_n3 dL_law_724 ?_
      refine AW_iconst (v := 2) dL_law_725 (by decide) ?_
      refine AW_iadd dL_law_726 ?_
      replace hf := rk_bd hf
      obtain ⟨x100, e127, hf⟩ := hf
      refine AW_srd dL_law_727 e127 ?_
      replace hf := rk_bd hf
      obtain ⟨_, e128, hf⟩ := hf
      have e128 := rk_layM_sp e128
      replace hf := rk_bd3 hf
      obtain ⟨x101, I26, J6, e129, hf⟩ := hf
      refine AW_iV2lz (w_X10_balance (d := 68) (Nat.le_refl _) e128 e129) dL_law_728 kl_L_79 (e128.1 31 (by decide) (by decide)) rfl (Nat.le_trans (by decide) hd) (by decide) (Nat.le_of_ble_eq_true rfl) (fun _ => ?_)
      refine AW_lcmp dL_law_731 ?_
      refine AW_if_eq 1331 dL_law_732 (by decide) (fun h29 => ?_) (fun h29 => ?_)
      · replace hf := rk_it hf h29
        refine AW_iinc_3 (v := 6) dL_law_1331 (by decide) (by decide) rfl ?_
        refine AW_goto 18 dL_law_1334 (by decide) ?_
        refine AW_sb (rk_sbs (rk_sbs (rk_sbs (rk_sbs rk_sb0)))) ?_
        refine AW_wid (a := 9) (b := 322) ?_
        exact hc _ _ _ _ _ _ (Option.some.inj hf).symm
      · replace hf := rk_if hf h29
        refine AW_iconst (v := 0) dL_law_735 (by decide) ?_
        exact AW_zret dL_law_736 rfl rfl (hq _ _ _ _ _ _ (Option.some.inj hf).symm)
    replace hf := rk_if hf h28
    by_cases h30 : (x1 &&& 31) = 14
    · replace hf := rk_it hf h30
      refine AW_tableIn 737 dL_law_33 (by rw [h30]; decide) (by rw [h30]; decide) (by rw [h30]; rfl) (by decide) ?_
      refine AW_aload_n1 dL_law_737 ?_
      refine AW_aload_n0 dL_law_738 ?_
      refine AW_iload_n3 dL_law_739 ?_
      refine AW_iconst (v := 1) dL_law_740 (by decide) ?_
      refine AW_iadd dL_law_741 ?_
      replace hf := rk_bd hf
      obtain ⟨x102, e130, hf⟩ := hf
      refine AW_srd dL_law_742 e130 ?_
      replace hf := rk_bd hf
      obtain ⟨_, e131, hf⟩ := hf
      have e131 := rk_layC_sp e131
      replace hf := rk_bd3 hf
      obtain ⟨x103, I27, R7, e132, hf⟩ := hf
      refine AW_iV1iz (w_X9_closes (d := 3) (Nat.le_refl _) e131 e132) dL_law_743 kl_L_80 (e131.1 0 (by decide)) rfl (Nat.le_trans (by decide) hd) (by decide) (Nat.le_of_ble_eq_true rfl) (fun hL7 => ?_)
      refine AW_aload_n2 dL_law_746 ?_
      refine AW_aload_n0 dL_law_747 ?_
      refine AW_iload_n3 dL_law_748 ?_
      refine AW_iconst (v := 1) dL_law_749 (by decide) ?_
      refine AW_iadd dL_law_750 ?_
      replace hf := rk_bd hf
      obtain ⟨x104, e133, hf⟩ := hf
      refine AW_srd dL_law_751 e133 ?_
      replace hf := rk_bd hf
      obtain ⟨_, e134, hf⟩ := hf
      have e134 := rk_layM_sp e134
      replace hf := rk_bd hf
      obtain ⟨x105, e135, hf⟩ := hf
      refine AW_iV1iz (w_X10_closes (d := 2) (Nat.le_refl _) e134 e135) dL_law_752 kl_L_83 (e134.1 31 (by decide) (by decide)) rfl (Nat.le_trans (by decide) hd) (by decide) (Nat.le_of_ble_eq_true rfl) (fun _ => ?_)
      refine AW_icmp_eq 1331 dL_law_755 (by decide) (fun h31 => ?_) (fun h31 => ?_)
      · replace hf := rk_it hf h31
        refine AW_iinc_3 (v := 6) dL_law_1331 (by decide) (by decide) rfl ?_
        refine AW_goto 18 dL_law_1334 (by decide) ?_
        refine AW_sb (rk_sbs (rk_sbs (rk_sbs (rk_sbs rk_sb0)))) ?_
        refine AW_wid (a := 9) (b := 322) ?_
        exact hc _ _ _ _ _ _ (Option.some.inj hf).symm
      · replace hf := rk_if hf h31
        refine AW_iconst (v := 0) dL_law_758 (by decide) ?_
        exact AW_zret dL_law_759 rfl rfl (hq _ _ _ _ _ _ (Option.some.inj hf).symm)
    replace hf := rk_if hf h30
    by_cases h32 : (x1 &&& 31) = 15
    · replace hf := rk_it hf h32
      refine AW_tableIn 760 dL_law_33 (by rw [h32]; decide) (by rw [h32]; decide) (by rw [h32]; rfl) (by decide) ?_
      refine AW_aload_n1 dL_law_760 ?_
      refine AW_aload_n0 dL_law_761 ?_
      refine AW_iload_n3 dL_law_762 ?_
      refine AW_iconst (v := 1) dL_law_763 (by decide) ?_
      refine AW_iadd dL_law_764 ?_
      replace hf := rk_bd hf
      obtain ⟨x106, e136, hf⟩ := hf
      refine AW_srd dL_law_765 e136 ?_
      refine AW_aload_n0 dL_law_766 ?_
      refine AW_iload_n3 dL_law_767 ?_
      refine AW_iconst (v := 2) dL_law_768 (by decide) ?_
      refine AW_iadd dL_law_769 ?_
      replace hf := rk_bd hf
      obtain ⟨x107, e137, hf⟩ := hf
      refine AW_srd dL_law_770 e137 ?_
      replace hf := rk_bd hf
      obtain ⟨_, e138, hf⟩ := hf
      have e138 := rk_layC_sp e138
      replace hf := rk_bd3 hf
      obtain ⟨x108, I28, R8, e139, hf⟩ := hf
      refine AW_iV2lz (w_X9_differ (d := 3) (Nat.le_refl _) e138 e139) dL_law_771 kl_L_84 (e138.1 0 (by decide)) rfl (Nat.le_trans (by decide) hd) (by decide) (Nat.le_of_ble_eq_true rfl) (fun hL8 => ?_)
      refine AW_aload_n2 dL_law_774 ?_
      refine AW_aload_n0 dL_law_775 ?_
      refine AW_iload_n3 dL_law_776 ?_
      refine AW_iconst (v := 1) dL_law_777 (by decide) ?_
      refine AW_iadd dL_law_778 ?_
      replace hf := rk_bd hf
      obtain ⟨x109, e140, hf⟩ := hf
      refine AW_srd dL_law_779 e140 ?_
      refine AW_aload_n0 dL_law_780 ?_
      refine AW_iload_n3 dL_law_781 ?_
      refine AW_iconst (v := 2) dL_law_782 (by decide) ?_
      refine AW_iadd dL_law_783 ?_
      replace hf := rk_bd hf
      obtain ⟨x110, e141, hf⟩ := hf
      refine AW_srd dL_law_784 e141 ?_
      replace hf := rk_bd hf
      obtain ⟨_, e142, hf⟩ := hf
      have e142 := rk_layM_sp e142
      replace hf := rk_bd hf
      obtain ⟨x111, e143, hf⟩ := hf
      refine AW_iV2lz (w_X10_differ (d := 2) (Nat.le_refl _) e142 e143) dL_law_785 kl_L_87 (e142.1 31 (by decide) (by decide)) rfl (Nat.le_trans (by decide) hd) (by decide) (Nat.le_of_ble_eq_true rfl) (fun _ => ?_)
      refine AW_lcmp dL_law_788 ?_
      refine AW_if_eq 1331 dL_law_789 (by decide) (fun h33 => ?_) (fun h33 => ?_)
      · replace hf := rk_it hf h33
        refine AW_iinc_3 (v := 6) dL_law_1331 (by decide) (by decide) rfl ?_
        refine AW_goto 18 dL_law_1334 (by decide) ?_
        refine AW_sb (rk_sbs (rk_sbs (rk_sbs (rk_sbs rk_sb0)))) ?_
        refine AW_wid (a := 9) (b := 322) ?_
        exact hc _ _ _ _ _ _ (Option.some.inj hf).symm
      · replace hf := rk_if hf h33
        refine AW_iconst (v := 0) dL_law_792 (by decide) ?_
        exact AW_zret dL_law_793 rfl rfl (hq _ _ _ _ _ _ (Option.some.inj hf).symm)
    replace hf := rk_if hf h32
    by_cases h34 : (x1 &&& 31) = 16
    · replace hf := rk_it hf h34
      refine AW_tableIn 794 dL_law_33 (by rw [h34]; decide) (by rw [h34]; decide) (by rw [h34]; rfl) (by decide) ?_
      refine AW_aload_n1 dL_law_794 ?_
      refine AW_aload_n0 dL_law_795 ?_
      refine AW_iload_n3 dL_law_796 ?_
      refine AW_iconst (v := 1) dL_law_797 (by decide) ?_
      refine AW_iadd dL_law_798 ?_
      replace hf := rk_bd hf
      obtain ⟨x112, e144, hf⟩ := hf
      refine AW_srd dL_law_799 e144 ?_
      replace hf := rk_bd hf
      obtain ⟨_, e145, hf⟩ := hf
      have e145 := rk_layC_sp e145
      replace hf := rk_bd3 hf
      obtain ⟨x113, I29, R9, e146, hf⟩ := hf
      refine AW_iV1iz (w_X9_found (d := 17) (Nat.le_refl _) e145 e146) dL_law_800 kl_L_88 (e145.1 0 (by decide)) rfl (Nat.le_trans (by decide) hd) (by decide) (Nat.le_of_ble_eq_true rfl) (fun hL9 => ?_)
      refine AW_aload_n2 dL_law_803 ?_
      refine AW_aload_n0 dL_law_804 ?_
      refine AW_iload_n3 dL_law_805 ?_
      refine AW_iconst (v := 1) dL_law_806 (by decide) ?_
      refine AW_iadd dL_law_807 ?_
      replace hf := rk_bd hf
      obtain ⟨x114, e147, hf⟩ := hf
      refine AW_srd dL_law_808 e147 ?_
      replace hf := rk_bd hf
      obtain ⟨_, e148, hf⟩ := hf
      have e148 := rk_layM_sp e148
      replace hf := rk_bd hf
      obtain ⟨x115, e149, hf⟩ := hf
      refine AW_iV1iz (w_X10_found (d := 2) (Nat.le_refl _) e148 e149) dL_law_809 kl_L_91 (e148.1 31 (by decide) (by decide)) rfl (Nat.le_trans (by decide) hd) (by decide) (Nat.le_of_ble_eq_true rfl) (fun _ => ?_)
      refine AW_icmp_eq 1331 dL_law_812 (by decide) (fun h35 => ?_) (fun h35 => ?_)
      · replace hf := rk_it hf h35
        refine AW_iinc_3 (v := 6) dL_law_1331 (by decide) (by decide) rfl ?_
        refine AW_goto 18 dL_law_1334 (by decide) ?_
        refine AW_sb (rk_sbs (rk_sbs (rk_sbs (rk_sbs rk_sb0)))) ?_
        refine AW_wid (a := 9) (b := 322) ?_
        exact hc _ _ _ _ _ _ (Option.some.inj hf).symm
      · replace hf := rk_if hf h35
        refine AW_iconst (v := 0) dL_law_815 (by decide) ?_
        exact AW_zret dL_law_816 rfl rfl (hq _ _ _ _ _ _ (Option.some.inj hf).symm)
    replace hf := rk_if hf h34
    by_cases h36 : (x1 &&& 31) = 17
    · replace hf := rk_it hf h36
      refine AW_tableIn 817 dL_law_33 (by rw [h36]; decide) (by rw [h36]; decide) (by rw [h36]; rfl) (by decide) ?_
      refine AW_aload_n1 dL_law_817 ?_
      refine AW_aload_n0 dL_law_818 ?_
      refine AW_iload_n3 dL_law_819 ?_
      refine AW_iconst (v := 1) dL_law_820 (by decide) ?_
      refine AW_iadd dL_law_821 ?_
      replace hf := rk_bd hf
      obtain ⟨x116, e150, hf⟩ := hf
      refine AW_srd dL_law_822 e150 ?_
      refine AW_aload_n0 dL_law_823 ?_
      refine AW_iload_n3 dL_law_824 ?_
      refine AW_iconst (v := 2) dL_law_825 (by decide) ?_
      refine AW_iadd dL_law_826 ?_
      replace hf := rk_bd hf
      obtain ⟨x117, e151, hf⟩ := hf
      refine AW_srd dL_law_827 e151 ?_
      replace hf := rk_bd hf
      obtain ⟨_, e152, hf⟩ := hf
      have e152 := rk_layC_sp e152
      replace hf := rk_bd2 hf
      obtain ⟨x118, I30, e153, hf⟩ := hf
      refine AW_iV2lz (w_X9_loses (d := 6) (Nat.le_refl _) e152 e153) dL_law_828 kl_L_92 (e152.1 0 (by decide)) rfl (Nat.le_trans (by decide) hd) (by decide) (Nat.le_of_ble_eq_true rfl) (fun _ => ?_)
      refine AW_aload_n2 dL_law_831 ?_
      refine AW_aload_n0 dL_law_832 ?_
      refine AW_iload_n3 dL_law_833 ?_
      refine AW_iconst (v := 1) dL_law_834 (by decide) ?_
      refine AW_iadd dL_law_835 ?_
      replace hf := rk_bd hf
      obtain ⟨x119, e154, hf⟩ := hf
      refine AW_srd dL_law_836 e154 ?_
      refine AW_aload_n0 dL_law_837 ?_
      refine AW_iload_n3 dL_law_838 ?_
      refine AW_iconst (v := 2) dL_law_839 (by decide) ?_
      refine AW_iadd dL_law_840 ?_
      replace hf := rk_bd hf
      obtain ⟨x120, e155, hf⟩ := hf
      refine AW_srd dL_law_841 e155 ?_
      replace hf := rk_bd hf
      obtain ⟨_, e156, hf⟩ := hf
      have e156 := rk_layM_sp e156
      replace hf := rk_bd3 hf
      obtain ⟨x121, I31, J7, e157, hf⟩ := hf
      refine AW_iV2lz (w_X10_loses (d := 68) (Nat.le_refl _) e156 e157) dL_law_842 kl_L_95 (e156.1 31 (by decide) (by decide)) rfl (Nat.le_trans (by decide) hd) (by decide) (Nat.le_of_ble_eq_true rfl) (fun _ => ?_)
      refine AW_lcmp dL_law_845 ?_
      refine AW_if_eq 1331 dL_law_846 (by decide) (fun h37 => ?_) (fun h37 => ?_)
      · replace hf := rk_it hf h37
        refine AW_iinc_3 (v := 6) dL_law_1331 (by decide) (by decide) rfl ?_
        refine AW_goto 18 dL_law_1334 (by decide) ?_
        refine AW_sb (rk_sbs (rk_sbs (rk_sbs (rk_sbs rk_sb0)))) ?_
        refine AW_wid (a := 9) (b := 322) ?_
        exact hc _ _ _ _ _ _ (Option.some.inj hf).symm
      · replace hf := rk_if hf h37
        refine AW_iconst (v := 0) dL_law_849 (by decide) ?_
        exact AW_zret dL_law_850 rfl rfl (hq _ _ _ _ _ _ (Option.some.inj hf).symm)
    replace hf := rk_if hf h36
    by_cases h38 : (x1 &&& 31) = 18
    · replace hf := rk_it hf h38
      refine AW_tableIn 851 dL_law_33 (by rw [h38]; decide) (by rw [h38]; decide) (by rw [h38]; rfl) (by decide) ?_
      refine AW_aload_n1 dL_law_851 ?_
      refine AW_aload_n0 dL_law_852 ?_
      refine AW_iload_n3 dL_law_853 ?_
      refine AW_iconst (v := 1) dL_law_854 (by decide) ?_
      refine AW_iadd dL_law_855 ?_
      replace hf := rk_bd hf
      obtain ⟨x122, e158, hf⟩ := hf
      refine AW_srd dL_law_856 e158 ?_
      refine AW_aload_n0 dL_law_857 ?_
      refine AW_iload_n3 dL_law_858 ?_
      refine AW_iconst (v := 2) dL_law_859 (by decide) ?_
      refine AW_iadd dL_law_860 ?_
      replace hf := rk_bd hf
      obtain ⟨x123, e159, hf⟩ := hf
      refine AW_srd dL_law_861 e159 ?_
      replace hf := rk_bd hf
      obtain ⟨_, e160, hf⟩ := hf
      have e160 := rk_layC_sp e160
      replace hf := rk_bd2 hf
      obtain ⟨x124, I32, e161, hf⟩ := hf
      refine AW_iV2iz (w_X9_stops (d := 6) (Nat.le_refl _) e160 e161) dL_law_862 kl_L_96 (e160.1 0 (by decide)) rfl (Nat.le_trans (by decide) hd) (by decide) (Nat.le_of_ble_eq_true rfl) (fun _ => ?_)
      refine AW_aload_n2 dL_law_865 ?_
      refine AW_aload_n0 dL_law_866 ?_
      refine AW_iload_n3 dL_law_867 ?_
      refine AW_iconst (v := 1) dL_law_868 (by decide) ?_
      refine AW_iadd dL_law_869 ?_
      replace hf := rk_bd hf
      obtain ⟨x125, e162, hf⟩ := hf
      refine AW_srd dL_law_870 e162 ?_
      refine AW_aload_n0 dL_law_871 ?_
      refine AW_iload_n3 dL_law_872 ?_
      refine AW_iconst (v := 2) dL_law_873 (by decide) ?_
      refine AW_iadd dL_law_874 ?_
      replace hf := rk_bd hf
      obtain ⟨x126, e163, hf⟩ := hf
      refine AW_srd dL_law_875 e163 ?_
      replace hf := rk_bd hf
      obtain ⟨_, e164, hf⟩ := hf
      have e164 := rk_layM_sp e164
      replace hf := rk_bd3 hf
      obtain ⟨x127, I33, J8, e165, hf⟩ := hf
      refine AW_iV2iz (w_X10_stops (d := 67) (Nat.le_refl _) e164 e165) dL_law_876 kl_L_99 (e164.1 31 (by decide) (by decide)) rfl (Nat.le_trans (by decide) hd) (by decide) (Nat.le_of_ble_eq_true rfl) (fun _ => ?_)
      refine AW_icmp_eq 1331 dL_law_879 (by decide) (fun h39 => ?_) (fun h39 => ?_)
      · replace hf := rk_it hf h39
        refine AW_iinc_3 (v := 6) dL_law_1331 (by decide) (by decide) rfl ?_
        refine AW_goto 18 dL_law_1334 (by decide) ?_
        refine AW_sb (rk_sbs (rk_sbs (rk_sbs (rk_sbs rk_sb0)))) ?_
        refine AW_wid (a := 9) (b := 322) ?_
        exact hc _ _ _ _ _ _ (Option.some.inj hf).symm
      · replace hf := rk_if hf h39
        refine AW_iconst (v := 0) dL_law_882 (by decide) ?_
        exact AW_zret dL_law_883 rfl rfl (hq _ _ _ _ _ _ (Option.some.inj hf).symm)
    replace hf := rk_if hf h38
    by_cases h40 : (x1 &&& 31) = 19
    · replace hf := rk_it hf h40
      refine AW_tableIn 884 dL_law_33 (by rw [h40]; decide) (by rw [h40]; decide) (by rw [h40]; rfl) (by decide) ?_
      refine AW_aload_n1 dL_law_884 ?_
      refine AW_aload_n0 dL_law_885 ?_
      refine AW_iload_n3 dL_law_886 ?_
      refine AW_iconst (v := 1) dL_law_887 (by decide) ?_
      refine AW_iadd dL_law_888 ?_
      replace hf := rk_bd hf
      obtain ⟨x128, e166, hf⟩ := hf
      refine AW_srd dL_law_889 e166 ?_
      refine AW_aload_n0 dL_law_890 ?_
      refine AW_iload_n3 dL_law_891 ?_
      refine AW_iconst (v := 2) dL_law_892 (by decide) ?_
      refine AW_iadd dL_law_893 ?_
      replace hf := rk_bd hf
      obtain ⟨x129, e167, hf⟩ := hf
      refine AW_srd dL_law_894 e167 ?_
      refine AW_aload_n0 dL_law_895 ?_
      refine AW_iload_n3 dL_law_896 ?_
      refine AW_iconst (v := 3) dL_law_897 (by decide) ?_
      refine AW_iadd dL_law_898 ?_
      replace hf := rk_bd hf
      obtain ⟨x130, e168, hf⟩ := hf
      refine AW_srd dL_law_899 e168 ?_
      replace hf := rk_bd hf
      obtain ⟨_, e169, hf⟩ := hf
      have e169 := rk_layC_sp e169
      replace hf := rk_bd hf
      obtain ⟨x131, e170, hf⟩ := hf
      refine AW_iV3iz (w_X9_two (d := 2) (Nat.le_refl _) e169 e170) dL_law_900 kl_L_100 (e169.1 0 (by decide)) rfl (Nat.le_trans (by decide) hd) (by decide) (Nat.le_of_ble_eq_true rfl) (fun _ => ?_)
      refine AW_aload_n2 dL_law_903 ?_
      refine AW_aload_n0 dL_law_904 ?_
      refine AW_iload_n3 dL_law_905 ?_
      refine AW_iconst (v := 1) dL_law_906 (by decide) ?_
      refine AW_iadd dL_law_907 ?_
      replace hf := rk_bd hf
      obtain ⟨x132, e171, hf⟩ := hf
      refine AW_srd dL_law_908 e171 ?_
      refine AW_aload_n0 dL_law_909 ?_
      refine AW_iload_n3 dL_law_910 ?_
      refine AW_iconst (v := 2) dL_law_911 (by decide) ?_
      refine AW_iadd dL_law_912 ?_
      replace hf := rk_bd hf
      obtain ⟨x133, e172, hf⟩ := hf
      refine AW_srd dL_law_913 e172 ?_
      refine AW_aload_n0 dL_law_914 ?_
      refine AW_iload_n3 dL_law_915 ?_
      refine AW_iconst (v := 3) dL_law_916 (by decide) ?_
      refine AW_iadd dL_law_917 ?_
      replace hf := rk_bd hf
      obtain ⟨x134, e173, hf⟩ := hf
      refine AW_srd dL_law_918 e173 ?_
      replace hf := rk_bd hf
      obtain ⟨_, e174, hf⟩ := hf
      have e174 := rk_layM_sp e174
      replace hf := rk_bd hf
      obtain ⟨x135, e175, hf⟩ := hf
      refine AW_iV3iz (w_X10_two (d := 2) (Nat.le_refl _) e174 e175) dL_law_919 kl_L_103 (e174.1 31 (by decide) (by decide)) rfl (Nat.le_trans (by decide) hd) (by decide) (Nat.le_of_ble_eq_true rfl) (fun _ => ?_)
      refine AW_icmp_eq 1331 dL_law_922 (by decide) (fun h41 => ?_) (fun h41 => ?_)
      · replace hf := rk_it hf h41
        refine AW_iinc_3 (v := 6) dL_law_1331 (by decide) (by decide) rfl ?_
        refine AW_goto 18 dL_law_1334 (by decide) ?_
        refine AW_sb (rk_sbs (rk_sbs (rk_sbs (rk_sbs rk_sb0)))) ?_
        refine AW_wid (a := 9) (b := 322) ?_
        exact hc _ _ _ _ _ _ (Option.some.inj hf).symm
      · replace hf := rk_if hf h41
        refine AW_iconst (v := 0) dL_law_925 (by decide) ?_
        exact AW_zret dL_law_926 rfl rfl (hq _ _ _ _ _ _ (Option.some.inj hf).symm)
    replace hf := rk_if hf h40
    by_cases h42 : (x1 &&& 31) = 20
    · replace hf := rk_it hf h42
      refine AW_tableIn 927 dL_law_33 (by rw [h42]; decide) (by rw [h42]; decide) (by rw [h42]; rfl) (by decide) ?_
      refine AW_aload_n1 dL_law_927 ?_
      refine AW_aload_n0 dL_law_928 ?_
      refine AW_iload_n3 dL_law_929 ?_
      refine AW_iconst (v := 1) dL_law_930 (by decide) ?_
      refine AW_iadd dL_law_931 ?_
      replace hf := rk_bd hf
      obtain ⟨x136, e176, hf⟩ := hf
      refine AW_srd dL_law_932 e176 ?_
      refine AW_aload_n0 dL_law_933 ?_
      refine AW_iload_n3 dL_law_934 ?_
      refine AW_iconst (v := 2) dL_law_935 (by decide) ?_
      refine AW_iadd dL_law_936 ?_
      replace hf := rk_bd hf
      obtain ⟨x137, e177, hf⟩ := hf
      refine AW_srd dL_law_937 e177 ?_
      refine AW_aload_n0 dL_law_938 ?_
      refine AW_iload_n3 dL_law_939 ?_
      refine AW_iconst (v := 3) dL_law_940 (by decide) ?_
      refine AW_iadd dL_law_941 ?_
      replace hf := rk_bd hf
      obtain ⟨x138, e178, hf⟩ := hf
      refine AW_srd dL_law_942 e178 ?_
      replace hf := rk_bd hf
      obtain ⟨_, e179, hf⟩ := hf
      have e179 := rk_layC_sp e179
      replace hf := rk_bd3 hf
      obtain ⟨x139, I34, R10, e180, hf⟩ := hf
      refine AW_iV3iz (w_X9_hangs (d := 6) (Nat.le_refl _) e179 e180) dL_law_943 kl_L_104 (e179.1 0 (by decide)) rfl (Nat.le_trans (by decide) hd) (by decide) (Nat.le_of_ble_eq_true rfl) (fun hL10 => ?_)
      refine AW_aload_n2 dL_law_946 ?_
      refine AW_aload_n0 dL_law_947 ?_
      refine AW_iload_n3 dL_law_948 ?_
      refine AW_iconst (v := 1) dL_law_949 (by decide) ?_
      refine AW_iadd dL_law_950 ?_
      replace hf := rk_bd hf
      obtain ⟨x140, e181, hf⟩ := hf
      refine AW_srd dL_law_951 e181 ?_
      refine AW_aload_n0 dL_law_952 ?_
      refine AW_iload_n3 dL_law_953 ?_
      refine AW_iconst (v := 2) dL_law_954 (by decide) ?_
      refine AW_iadd dL_law_955 ?_
      replace hf := rk_bd hf
      obtain ⟨x141, e182, hf⟩ := hf
      refine AW_srd dL_law_956 e182 ?_
      refine AW_aload_n0 dL_law_957 ?_
      refine AW_iload_n3 dL_law_958 ?_
      refine AW_iconst (v := 3) dL_law_959 (by decide) ?_
      refine AW_iadd dL_law_960 ?_
      replace hf := rk_bd hf
      obtain ⟨x142, e183, hf⟩ := hf
      refine AW_srd dL_law_961 e183 ?_
      replace hf := rk_bd hf
      obtain ⟨_, e184, hf⟩ := hf
      have e184 := rk_layM_sp e184
      replace hf := rk_bd2 hf
      obtain ⟨x143, I35, e185, hf⟩ := hf
      refine AW_iV3iz (w_X10_hangs (d := 6) (Nat.le_refl _) e184 e185) dL_law_962 kl_L_107 (e184.1 31 (by decide) (by decide)) rfl (Nat.le_trans (by decide) hd) (by decide) (Nat.le_of_ble_eq_true rfl) (fun _ => ?_)
      refine AW_icmp_eq 1331 dL_law_965 (by decide) (fun h43 => ?_) (fun h43 => ?_)
      · replace hf := rk_it hf h43
        refine AW_iinc_3 (v := 6) dL_law_1331 (by decide) (by decide) rfl ?_
        refine AW_goto 18 dL_law_1334 (by decide) ?_
        refine AW_sb (rk_sbs (rk_sbs (rk_sbs (rk_sbs rk_sb0)))) ?_
        refine AW_wid (a := 9) (b := 322) ?_
        exact hc _ _ _ _ _ _ (Option.some.inj hf).symm
      · replace hf := rk_if hf h43
        refine AW_iconst (v := 0) dL_law_968 (by decide) ?_
        exact AW_zret dL_law_969 rfl rfl (hq _ _ _ _ _ _ (Option.some.inj hf).symm)
    replace hf := rk_if hf h42
    by_cases h44 : (x1 &&& 31) = 21
    · replace hf := rk_it hf h44
      refine AW_tableIn 970 dL_law_33 (by rw [h44]; decide) (by rw [h44]; decide) (by rw [h44]; rfl) (by decide) ?_
      refine AW_aload_n1 dL_law_970 ?_
      refine AW_aload_n0 dL_law_971 ?_
      refine AW_iload_n3 dL_law_972 ?_
      refine AW_iconst (v := 1) dL_law_973 (by decide) ?_
      refine AW_iadd dL_law_974 ?_
      replace hf := rk_bd hf
      obtain ⟨x144, e186, hf⟩ := hf
      refine AW_srd dL_law_975 e186 ?_
      refine AW_aload_n0 dL_law_976 ?_
      refine AW_iload_n3 dL_law_977 ?_
      refine AW_iconst (v := 2) dL_law_978 (by decide) ?_
      refine AW_iadd dL_law_979 ?_
      replace hf := rk_bd hf
      obtain ⟨x145, e187, hf⟩ := hf
      refine AW_srd dL_law_980 e187 ?_
      refine AW_aload_n0 dL_law_981 ?_
      refine AW_iload_n3 dL_law_982 ?_
      refine AW_iconst (v := 3) dL_law_983 (by decide) ?_
      refine AW_iadd dL_law_984 ?_
      replace hf := rk_bd hf
      obtain ⟨x146, e188, hf⟩ := hf
      refine AW_srd dL_law_985 e188 ?_
      replace hf := rk_bd hf
      obtain ⟨_, e189, hf⟩ := hf
      have e189 := rk_layC_sp e189
      replace hf := rk_bd3 hf
      obtain ⟨x147, I36, R11, e190, hf⟩ := hf
      refine AW_iV3lz (w_X9_moves (d := 6) (Nat.le_refl _) e189 e190) dL_law_986 kl_L_108 (e189.1 0 (by decide)) rfl (Nat.le_trans (by decide) hd) (by decide) (Nat.le_of_ble_eq_true rfl) (fun hL11 => ?_)
      refine AW_aload_n2 dL_law_989 ?_
      refine AW_aload_n0 dL_law_990 ?_
      refine AW_iload_n3 dL_law_991 ?_
      refine AW_iconst (v := 1) dL_law_992 (by decide) ?_
      refine AW_iadd dL_law_993 ?_
      replace hf := rk_bd hf
      obtain ⟨x148, e191, hf⟩ := hf
      refine AW_srd dL_law_994 e191 ?_
      refine AW_aload_n0 dL_law_995 ?_
      refine AW_iload_n3 dL_law_996 ?_
      refine AW_iconst (v := 2) dL_law_997 (by decide) ?_
      refine AW_iadd dL_law_998 ?_
      replace hf := rk_bd hf
      obtain ⟨x149, e192, hf⟩ := hf
      refine AW_srd dL_law_999 e192 ?_
      refine AW_aload_n0 dL_law_1000 ?_
      refine AW_iload_n3 dL_law_1001 ?_
      refine AW_iconst (v := 3) dL_law_1002 (by decide) ?_
      refine AW_iadd dL_law_1003 ?_
      replace hf := rk_bd hf
      obtain ⟨x150, e193, hf⟩ := hf
      refine AW_srd dL_law_1004 e193 ?_
      replace hf := rk_bd hf
      obtain ⟨_, e194, hf⟩ := hf
      have e194 := rk_layM_sp e194
      replace hf := rk_bd2 hf
      obtain ⟨x151, I37, e195, hf⟩ := hf
      refine AW_iV3lz (w_X10_moves (d := 5) (Nat.le_refl _) e194 e195) dL_law_1005 kl_L_112 (e194.1 31 (by decide) (by decide)) rfl (Nat.le_trans (by decide) hd) (by decide) (Nat.le_of_ble_eq_true rfl) (fun _ => ?_)
      refine AW_lcmp dL_law_1008 ?_
      refine AW_if_eq 1331 dL_law_1009 (by decide) (fun h45 => ?_) (fun h45 => ?_)
      · replace hf := rk_it hf h45
        refine AW_iinc_3 (v := 6) dL_law_1331 (by decide) (by decide) rfl ?_
        refine AW_goto 18 dL_law_1334 (by decide) ?_
        refine AW_sb (rk_sbs (rk_sbs (rk_sbs (rk_sbs rk_sb0)))) ?_
        refine AW_wid (a := 9) (b := 322) ?_
        exact hc _ _ _ _ _ _ (Option.some.inj hf).symm
      · replace hf := rk_if hf h45
        refine AW_iconst (v := 0) dL_law_1012 (by decide) ?_
        exact AW_zret dL_law_1013 rfl rfl (hq _ _ _ _ _ _ (Option.some.inj hf).symm)
    replace hf := rk_if hf h44
    by_cases h46 : (x1 &&& 31) = 22
    · replace hf := rk_it hf h46
      refine AW_tableIn 1014 dL_law_33 (by rw [h46]; decide) (by rw [h46]; decide) (by rw [h46]; rfl) (by decide) ?_
      refine AW_aload_n1 dL_law_1014 ?_
      refine AW_aload_n0 dL_law_1015 ?_
      refine AW_iload_n3 dL_law_1016 ?_
      refine AW_iconst (v := 1) dL_law_1017 (by decide) ?_
      refine AW_iadd dL_law_1018 ?_
      replace hf := rk_bd hf
      obtain ⟨x152, e196, hf⟩ := hf
      refine AW_srd dL_law_1019 e196 ?_
      refine AW_aload_n0 dL_law_1020 ?_
      refine AW_iload_n3 dL_law_1021 ?_
      refine AW_iconst (v := 2) dL_law_1022 (by decide) ?_
      refine AW_iadd dL_law_1023 ?_
      replace hf := rk_bd hf
      obtain ⟨x153, e197, hf⟩ := hf
      refine AW_srd dL_law_1024 e197 ?_
      replace hf := rk_bd hf
      obtain ⟨_, e198, hf⟩ := hf
      have e198 := rk_layC_sp e198
      replace hf := rk_bd3 hf
      obtain ⟨x154, I38, R12, e199, hf⟩ := hf
      refine AW_iV2iz (w_X9_telegraph (d := 5) (Nat.le_refl _) e198 e199) dL_law_1025 kl_L_113 (e198.1 0 (by decide)) rfl (Nat.le_trans (by decide) hd) (by decide) (Nat.le_of_ble_eq_true rfl) (fun hL12 => ?_)
      refine AW_aload_n2 dL_law_1028 ?_
      refine AW_aload_n0 dL_law_1029 ?_
      refine AW_iload_n3 dL_law_1030 ?_
      refine AW_iconst (v := 1) dL_law_1031 (by decide) ?_
      refine AW_iadd dL_law_1032 ?_
      replace hf := rk_bd hf
      obtain ⟨x155, e200, hf⟩ := hf
      refine AW_srd dL_law_1033 e200 ?_
      refine AW_aload_n0 dL_law_1034 ?_
      refine AW_iload_n3 dL_law_1035 ?_
      refine AW_iconst (v := 2) dL_law_1036 (by decide) ?_
      refine AW_iadd dL_law_1037 ?_
      replace hf := rk_bd hf
      obtain ⟨x156, e201, hf⟩ := hf
      refine AW_srd dL_law_1038 e201 ?_
      replace hf := rk_bd hf
      obtain ⟨_, e202, hf⟩ := hf
      have e202 := rk_layM_sp e202
      replace hf := rk_bd2 hf
      obtain ⟨x157, I39, e203, hf⟩ := hf
      refine AW_iV2iz (w_X10_telegraph (d := 5) (Nat.le_refl _) e202 e203) dL_law_1039 kl_L_116 (e202.1 31 (by decide) (by decide)) rfl (Nat.le_trans (by decide) hd) (by decide) (Nat.le_of_ble_eq_true rfl) (fun _ => ?_)
      refine AW_icmp_eq 1331 dL_law_1042 (by decide) (fun h47 => ?_) (fun h47 => ?_)
      · replace hf := rk_it hf h47
        refine AW_iinc_3 (v := 6) dL_law_1331 (by decide) (by decide) rfl ?_
        refine AW_goto 18 dL_law_1334 (by decide) ?_
        refine AW_sb (rk_sbs (rk_sbs (rk_sbs (rk_sbs rk_sb0)))) ?_
        refine AW_wid (a := 9) (b := 322) ?_
        exact hc _ _ _ _ _ _ (Option.some.inj hf).symm
      · replace hf := rk_if hf h47
        refine AW_iconst (v := 0) dL_law_1045 (by decide) ?_
        exact AW_zret dL_law_1046 rfl rfl (hq _ _ _ _ _ _ (Option.some.inj hf).symm)
    replace hf := rk_if hf h46
    by_cases h48 : (x1 &&& 31) = 23
    · replace hf := rk_it hf h48
      refine AW_tableIn 1047 dL_law_33 (by rw [h48]; decide) (by rw [h48]; decide) (by rw [h48]; rfl) (by decide) ?_
      refine AW_aload_n1 dL_law_1047 ?_
      replace hf := rk_bd hf
      obtain ⟨_, e204, hf⟩ := hf
      have e204 := rk_layC_sp e204
      replace hf := rk_bd2 hf
      obtain ⟨x158, I40, e205, hf⟩ := hf
      refine AW_iV0iz (w_X9_image (d := 2) (Nat.le_refl _) e204 e205) dL_law_1048 kl_L_117 (e204.1 0 (by decide)) rfl (Nat.le_trans (by decide) hd) (by decide) (Nat.le_of_ble_eq_true rfl) (fun _ => ?_)
      refine AW_aload_n2 dL_law_1051 ?_
      replace hf := rk_bd hf
      obtain ⟨_, e206, hf⟩ := hf
      have e206 := rk_layM_sp e206
      replace hf := rk_bd2 hf
      obtain ⟨x159, I41, e207, hf⟩ := hf
      refine AW_iV0iz (w_X10_image (d := 0) e206 e207) dL_law_1052 kl_L_120 (e206.1 31 (by decide) (by decide)) rfl (Nat.le_trans (by decide) hd) (by decide) (Nat.le_of_ble_eq_true rfl) (fun _ => ?_)
      refine AW_icmp_eq 1331 dL_law_1055 (by decide) (fun h49 => ?_) (fun h49 => ?_)
      · replace hf := rk_it hf h49
        refine AW_iinc_3 (v := 6) dL_law_1331 (by decide) (by decide) rfl ?_
        refine AW_goto 18 dL_law_1334 (by decide) ?_
        refine AW_sb (rk_sbs (rk_sbs (rk_sbs (rk_sbs rk_sb0)))) ?_
        refine AW_wid (a := 9) (b := 322) ?_
        exact hc _ _ _ _ _ _ (Option.some.inj hf).symm
      · replace hf := rk_if hf h49
        refine AW_iconst (v := 0) dL_law_1058 (by decide) ?_
        exact AW_zret dL_law_1059 rfl rfl (hq _ _ _ _ _ _ (Option.some.inj hf).symm)
    replace hf := rk_if hf h48
    by_cases h50 : (x1 &&& 31) = 24
    · replace hf := rk_it hf h50
      refine AW_tableIn 1060 dL_law_33 (by rw [h50]; decide) (by rw [h50]; decide) (by rw [h50]; rfl) (by decide) ?_
      refine AW_aload_n1 dL_law_1060 ?_
      replace hf := rk_bd hf
      obtain ⟨_, e208, hf⟩ := hf
      have e208 := rk_layC_sp e208
      replace hf := rk_bd2 hf
      obtain ⟨x160, I42, e209, hf⟩ := hf
      refine AW_iV0iz (w_X9_back (d := 2) (Nat.le_refl _) e208 e209) dL_law_1061 kl_L_121 (e208.1 0 (by decide)) rfl (Nat.le_trans (by decide) hd) (by decide) (Nat.le_of_ble_eq_true rfl) (fun _ => ?_)
      refine AW_aload_n2 dL_law_1064 ?_
      replace hf := rk_bd hf
      obtain ⟨_, e210, hf⟩ := hf
      have e210 := rk_layM_sp e210
      replace hf := rk_bd2 hf
      obtain ⟨x161, I43, e211, hf⟩ := hf
      refine AW_iV0iz (w_X10_back (d := 0) e210 e211) dL_law_1065 kl_L_124 (e210.1 31 (by decide) (by decide)) rfl (Nat.le_trans (by decide) hd) (by decide) (Nat.le_of_ble_eq_true rfl) (fun _ => ?_)
      refine AW_icmp_eq 1331 dL_law_1068 (by decide) (fun h51 => ?_) (fun h51 => ?_)
      · replace hf := rk_it hf h51
        refine AW_iinc_3 (v := 6) dL_law_1331 (by decide) (by decide) rfl ?_
        refine AW_goto 18 dL_law_1334 (by decide) ?_
        refine AW_sb (rk_sbs (rk_sbs (rk_sbs (rk_sbs rk_sb0)))) ?_
        refine AW_wid (a := 9) (b := 322) ?_
        exact hc _ _ _ _ _ _ (Option.some.inj hf).symm
      · replace hf := rk_if hf h51
        refine AW_iconst (v := 0) dL_law_1071 (by decide) ?_
        exact AW_zret dL_law_1072 rfl rfl (hq _ _ _ _ _ _ (Option.some.inj hf).symm)
    replace hf := rk_if hf h50
    by_cases h52 : (x1 &&& 31) = 25
    · replace hf := rk_it hf h52
      refine AW_tableIn 1073 dL_law_33 (by rw [h52]; decide) (by rw [h52]; decide) (by rw [h52]; rfl) (by decide) ?_
      refine AW_aload_n1 dL_law_1073 ?_
      refine AW_aload_n0 dL_law_1074 ?_
      refine AW_iload_n3 dL_law_1075 ?_
      refine AW_iconst (v := 1) dL_law_1076 (by decide) ?_
      refine AW_iadd dL_law_1077 ?_
      replace hf := rk_bd hf
      obtain ⟨x162, e212, hf⟩ := hf
      refine AW_srd dL_law_1078 e212 ?_
      replace hf := rk_bd hf
      obtain ⟨_, e213, hf⟩ := hf
      have e213 := rk_layC_sp e213
      replace hf := rk_bd hf
      obtain ⟨x163, e214, hf⟩ := hf
      refine AW_iV1iz (w_X9_count (d := 1) (Nat.le_refl _) e213 e214) dL_law_1079 kl_L_125 (e213.1 0 (by decide)) rfl (Nat.le_trans (by decide) hd) (by decide) (Nat.le_of_ble_eq_true rfl) (fun _ => ?_)
      refine AW_aload_n2 dL_law_1082 ?_
      refine AW_aload_n0 dL_law_1083 ?_
      refine AW_iload_n3 dL_law_1084 ?_
      refine AW_iconst (v := 1) dL_law_1085 (by decide) ?_
      refine AW_iadd dL_law_1086 ?_
      replace hf := rk_bd hf
      obtain ⟨x164, e215, hf⟩ := hf
      refine AW_srd dL_law_1087 e215 ?_
      replace hf := rk_bd hf
      obtain ⟨_, e216, hf⟩ := hf
      have e216 := rk_layM_sp e216
      replace hf := rk_bd hf
      obtain ⟨x165, e217, hf⟩ := hf
      refine AW_iV1iz (w_X10_count (d := 0) e216 e217) dL_law_1088 kl_L_128 (e216.1 31 (by decide) (by decide)) rfl (Nat.le_trans (by decide) hd) (by decide) (Nat.le_of_ble_eq_true rfl) (fun _ => ?_)
      refine AW_icmp_eq 1331 dL_law_1091 (by decide) (fun h53 => ?_) (fun h53 => ?_)
      · replace hf := rk_it hf h53
        refine AW_iinc_3 (v := 6) dL_law_1331 (by decide) (by decide) rfl ?_
        refine AW_goto 18 dL_law_1334 (by decide) ?_
        refine AW_sb (rk_sbs (rk_sbs (rk_sbs (rk_sbs rk_sb0)))) ?_
        refine AW_wid (a := 9) (b := 322) ?_
        exact hc _ _ _ _ _ _ (Option.some.inj hf).symm
      · replace hf := rk_if hf h53
        refine AW_iconst (v := 0) dL_law_1094 (by decide) ?_
        exact AW_zret dL_law_1095 rfl rfl (hq _ _ _ _ _ _ (Option.some.inj hf).symm)
    replace hf := rk_if hf h52
    by_cases h54 : (x1 &&& 31) = 26
    · replace hf := rk_it hf h54
      refine AW_tableIn 1096 dL_law_33 (by rw [h54]; decide) (by rw [h54]; decide) (by rw [h54]; rfl) (by decide) ?_
      refine AW_aload_n1 dL_law_1096 ?_
      refine AW_aload_n0 dL_law_1097 ?_
      refine AW_iload_n3 dL_law_1098 ?_
      refine AW_iconst (v := 1) dL_law_1099 (by decide) ?_
      refine AW_iadd dL_law_1100 ?_
      replace hf := rk_bd hf
      obtain ⟨x166, e218, hf⟩ := hf
      refine AW_srd dL_law_1101 e218 ?_
      refine AW_aload_n0 dL_law_1102 ?_
      refine AW_iload_n3 dL_law_1103 ?_
      refine AW_iconst (v := 2) dL_law_1104 (by decide) ?_
      refine AW_iadd dL_law_1105 ?_
      replace hf := rk_bd hf
      obtain ⟨x167, e219, hf⟩ := hf
      refine AW_srd dL_law_1106 e219 ?_
      refine AW_aload_n0 dL_law_1107 ?_
      refine AW_iload_n3 dL_law_1108 ?_
      refine AW_iconst (v := 3) dL_law_1109 (by decide) ?_
      refine AW_iadd dL_law_1110 ?_
      replace hf := rk_bd hf
      obtain ⟨x168, e220, hf⟩ := hf
      refine AW_srd dL_law_1111 e220 ?_
      replace hf := rk_bd hf
      obtain ⟨_, e221, hf⟩ := hf
      have e221 := rk_layC_sp e221
      replace hf := rk_bd2 hf
      obtain ⟨x169, I44, e222, hf⟩ := hf
      refine AW_iV3iz (w_X9_sheet (d := 2) (Nat.le_refl _) e221 e222) dL_law_1112 kl_L_129 (e221.1 0 (by decide)) rfl (Nat.le_trans (by decide) hd) (by decide) (Nat.le_of_ble_eq_true rfl) (fun _ => ?_)
      refine AW_aload_n2 dL_law_1115 ?_
      refine AW_aload_n0 dL_law_1116 ?_
      refine AW_iload_n3 dL_law_1117 ?_
      refine AW_iconst (v := 1) dL_law_1118 (by decide) ?_
      refine AW_iadd dL_law_1119 ?_
      replace hf := rk_bd hf
      obtain ⟨x170, e223, hf⟩ := hf
      refine AW_srd dL_law_1120 e223 ?_
      refine AW_aload_n0 dL_law_1121 ?_
      refine AW_iload_n3 dL_law_1122 ?_
      refine AW_iconst (v := 2) dL_law_1123 (by decide) ?_
      refine AW_iadd dL_law_1124 ?_
      replace hf := rk_bd hf
      obtain ⟨x171, e224, hf⟩ := hf
      refine AW_srd dL_law_1125 e224 ?_
      refine AW_aload_n0 dL_law_1126 ?_
      refine AW_iload_n3 dL_law_1127 ?_
      refine AW_iconst (v := 3) dL_law_1128 (by decide) ?_
      refine AW_iadd dL_law_1129 ?_
      replace hf := rk_bd hf
      obtain ⟨x172, e225, hf⟩ := hf
      refine AW_srd dL_law_1130 e225 ?_
      replace hf := rk_bd hf
      obtain ⟨_, e226, hf⟩ := hf
      have e226 := rk_layM_sp e226
      replace hf := rk_bd2 hf
      obtain ⟨x173, I45, e227, hf⟩ := hf
      refine AW_iV3iz (w_X10_sheet (d := 2) (Nat.le_refl _) e226 e227) dL_law_1131 kl_L_132 (e226.1 31 (by decide) (by decide)) rfl (Nat.le_trans (by decide) hd) (by decide) (Nat.le_of_ble_eq_true rfl) (fun _ => ?_)
      refine AW_icmp_eq 1331 dL_law_1134 (by decide) (fun h55 => ?_) (fun h55 => ?_)
      · replace hf := rk_it hf h55
        refine AW_iinc_3 (v := 6) dL_law_1331 (by decide) (by decide) rfl ?_
        refine AW_goto 18 dL_law_1334 (by decide) ?_
        refine AW_sb (rk_sbs (rk_sbs (rk_sbs (rk_sbs rk_sb0)))) ?_
        refine AW_wid (a := 9) (b := 322) ?_
        exact hc _ _ _ _ _ _ (Option.some.inj hf).symm
      · replace hf := rk_if hf h55
        refine AW_iconst (v := 0) dL_law_1137 (by decide) ?_
        exact AW_zret dL_law_1138 rfl rfl (hq _ _ _ _ _ _ (Option.some.inj hf).symm)
    replace hf := rk_if hf h54
    by_cases h56 : (x1 &&& 31) = 27
    · replace hf := rk_it hf h56
      refine AW_tableIn 1139 dL_law_33 (by rw [h56]; decide) (by rw [h56]; decide) (by rw [h56]; rfl) (by decide) ?_
      refine AW_aload_n1 dL_law_1139 ?_
      refine AW_aload_n0 dL_law_1140 ?_
      refine AW_iload_n3 dL_law_1141 ?_
      refine AW_iconst (v := 1) dL_law_1142 (by decide) ?_
      refine AW_iadd dL_law_1143 ?_
      replace hf := rk_bd hf
      obtain ⟨x174, e228, hf⟩ := hf
      refine AW_srd dL_law_1144 e228 ?_
      refine AW_aload_n0 dL_law_1145 ?_
      refine AW_iload_n3 dL_law_1146 ?_
      refine AW_iconst (v := 2) dL_law_1147 (by decide) ?_
      refine AW_iadd dL_law_1148 ?_
      replace hf := rk_bd hf
      obtain ⟨x175, e229, hf⟩ := hf
      refine AW_srd dL_law_1149 e229 ?_
      refine AW_aload_n0 dL_law_1150 ?_
      refine AW_iload_n3 dL_law_1151 ?_
      refine AW_iconst (v := 3) dL_law_1152 (by decide) ?_
      refine AW_iadd dL_law_1153 ?_
      replace hf := rk_bd hf
      obtain ⟨x176, e230, hf⟩ := hf
      refine AW_srd dL_law_1154 e230 ?_
      replace hf := rk_bd hf
      obtain ⟨_, e231, hf⟩ := hf
      have e231 := rk_layC_sp e231
      replace hf := rk_bd2 hf
      obtain ⟨x177, I46, e232, hf⟩ := hf
      refine AW_iV3iz (w_X9_cell (d := 1) (Nat.le_refl _) e231 e232) dL_law_1155 kl_L_133 (e231.1 0 (by decide)) rfl (Nat.le_trans (by decide) hd) (by decide) (Nat.le_of_ble_eq_true rfl) (fun _ => ?_)
      refine AW_aload_n2 dL_law_1158 ?_
      refine AW_aload_n0 dL_law_1159 ?_
      refine AW_iload_n3 dL_law_1160 ?_
      refine AW_iconst (v := 1) dL_law_1161 (by decide) ?_
      refine AW_iadd dL_law_1162 ?_
      replace hf := rk_bd hf
      obtain ⟨x178, e233, hf⟩ := hf
      refine AW_srd dL_law_1163 e233 ?_
      refine AW_aload_n0 dL_law_1164 ?_
      refine AW_iload_n3 dL_law_1165 ?_
      refine AW_iconst (v := 2) dL_law_1166 (by decide) ?_
      refine AW_iadd dL_law_1167 ?_
      replace hf := rk_bd hf
      obtain ⟨x179, e234, hf⟩ := hf
      refine AW_srd dL_law_1168 e234 ?_
      refine AW_aload_n0 dL_law_1169 ?_
      refine AW_iload_n3 dL_law_1170 ?_
      refine AW_iconst (v := 3) dL_law_1171 (by decide) ?_
      refine AW_iadd dL_law_1172 ?_
      replace hf := rk_bd hf
      obtain ⟨x180, e235, hf⟩ := hf
      refine AW_srd dL_law_1173 e235 ?_
      replace hf := rk_bd hf
      obtain ⟨_, e236, hf⟩ := hf
      have e236 := rk_layM_sp e236
      replace hf := rk_bd2 hf
      obtain ⟨x181, I47, e237, hf⟩ := hf
      refine AW_iV3iz (w_X10_cell (d := 2) (Nat.le_refl _) e236 e237) dL_law_1174 kl_L_136 (e236.1 31 (by decide) (by decide)) rfl (Nat.le_trans (by decide) hd) (by decide) (Nat.le_of_ble_eq_true rfl) (fun _ => ?_)
      refine AW_icmp_eq 1331 dL_law_1177 (by decide) (fun h57 => ?_) (fun h57 => ?_)
      · replace hf := rk_it hf h57
        refine AW_iinc_3 (v := 6) dL_law_1331 (by decide) (by decide) rfl ?_
        refine AW_goto 18 dL_law_1334 (by decide) ?_
        refine AW_sb (rk_sbs (rk_sbs (rk_sbs (rk_sbs rk_sb0)))) ?_
        refine AW_wid (a := 9) (b := 322) ?_
        exact hc _ _ _ _ _ _ (Option.some.inj hf).symm
      · replace hf := rk_if hf h57
        refine AW_iconst (v := 0) dL_law_1180 (by decide) ?_
        exact AW_zret dL_law_1181 rfl rfl (hq _ _ _ _ _ _ (Option.some.inj hf).symm)
    replace hf := rk_if hf h56
    by_cases h58 : (x1 &&& 31) = 28
    · replace hf := rk_it hf h58
      refine AW_tableIn 1182 dL_law_33 (by rw [h58]; decide) (by rw [h58]; decide) (by rw [h58]; rfl) (by decide) ?_
      refine AW_aload_n1 dL_law_1182 ?_
      refine AW_aload_n0 dL_law_1183 ?_
      refine AW_iload_n3 dL_law_1184 ?_
      refine AW_iconst (v := 1) dL_law_1185 (by decide) ?_
      refine AW_iadd dL_law_1186 ?_
      replace hf := rk_bd hf
      obtain ⟨x182, e238, hf⟩ := hf
      refine AW_srd dL_law_1187 e238 ?_
      refine AW_aload_n0 dL_law_1188 ?_
      refine AW_iload_n3 dL_law_1189 ?_
      refine AW_iconst (v := 2) dL_law_1190 (by decide) ?_
      refine AW_iadd dL_law_1191 ?_
      replace hf := rk_bd hf
      obtain ⟨x183, e239, hf⟩ := hf
      refine AW_srd dL_law_1192 e239 ?_
      refine AW_aload_n0 dL_law_1193 ?_
      refine AW_iload_n3 dL_law_1194 ?_
      refine AW_iconst (v := 3) dL_law_1195 (by decide) ?_
      refine AW_iadd dL_law_1196 ?_
      replace hf := rk_bd hf
      obtain ⟨x184, e240, hf⟩ := hf
      refine AW_srd dL_law_1197 e240 ?_
      refine AW_aload_n0 dL_law_1198 ?_
      refine AW_iload_n3 dL_law_1199 ?_
      refine AW_iconst (v := 4) dL_law_1200 (by decide) ?_
      refine AW_iadd dL_law_1201 ?_
      replace hf := rk_bd hf
      obtain ⟨x185, e241, hf⟩ := hf
      refine AW_srd dL_law_1202 e241 ?_
      refine AW_aload_n0 dL_law_1203 ?_
      refine AW_iload_n3 dL_law_1204 ?_
      refine AW_iconst (v := 5) dL_law_1205 (by decide) ?_
      refine AW_iadd dL_law_1206 ?_
      replace hf := rk_bd hf
      obtain ⟨x186, e242, hf⟩ := hf
      refine AW_srd dL_law_1207 e242 ?_
      replace hf := rk_bd hf
      obtain ⟨_, e243, hf⟩ := hf
      have e243 := rk_layC_sp e243
      replace hf := rk_bd2 hf
      obtain ⟨x187, I48, e244, hf⟩ := hf
      refine AW_iV5iz (w_X9_copy (d := 1) (Nat.le_refl _) e243 e244) dL_law_1208 kl_L_137 (e243.1 0 (by decide)) rfl (Nat.le_trans (by decide) hd) (by decide) (Nat.le_of_ble_eq_true rfl) (fun _ => ?_)
      refine AW_aload_n2 dL_law_1211 ?_
      refine AW_aload_n0 dL_law_1212 ?_
      refine AW_iload_n3 dL_law_1213 ?_
      refine AW_iconst (v := 1) dL_law_1214 (by decide) ?_
      refine AW_iadd dL_law_1215 ?_
      replace hf := rk_bd hf
      obtain ⟨x188, e245, hf⟩ := hf
      refine AW_srd dL_law_1216 e245 ?_
      refine AW_aload_n0 dL_law_1217 ?_
      refine AW_iload_n3 dL_law_1218 ?_
      refine AW_iconst (v := 2) dL_law_1219 (by decide) ?_
      refine AW_iadd dL_law_1220 ?_
      replace hf := rk_bd hf
      obtain ⟨x189, e246, hf⟩ := hf
      refine AW_srd dL_law_1221 e246 ?_
      refine AW_aload_n0 dL_law_1222 ?_
      refine AW_iload_n3 dL_law_1223 ?_
      refine AW_iconst (v := 3) dL_law_1224 (by decide) ?_
      refine AW_iadd dL_law_1225 ?_
      replace hf := rk_bd hf
      obtain ⟨x190, e247, hf⟩ := hf
      refine AW_srd dL_law_1226 e247 ?_
      refine AW_aload_n0 dL_law_1227 ?_
      refine AW_iload_n3 dL_law_1228 ?_
      refine AW_iconst (v := 4) dL_law_1229 (by decide) ?_
      refine AW_iadd dL_law_1230 ?_
      replace hf := rk_bd hf
      obtain ⟨x191, e248, hf⟩ := hf
      refine AW_srd dL_law_1231 e248 ?_
      refine AW_aload_n0 dL_law_1232 ?_
      refine AW_iload_n3 dL_law_1233 ?_
      refine AW_iconst (v := 5) dL_law_1234 (by decide) ?_
      refine AW_iadd dL_law_1235 ?_
      replace hf := rk_bd hf
      obtain ⟨x192, e249, hf⟩ := hf
      refine AW_srd dL_law_1236 e249 ?_
      replace hf := rk_bd hf
      obtain ⟨_, e250, hf⟩ := hf
      have e250 := rk_layM_sp e250
      replace hf := rk_bd2 hf
      obtain ⟨x193, I49, e251, hf⟩ := hf
      refine AW_iV5iz (w_X10_copy (d := 2) (Nat.le_refl _) e250 e251) dL_law_1237 kl_L_140 (e250.1 31 (by decide) (by decide)) rfl (Nat.le_trans (by decide) hd) (by decide) (Nat.le_of_ble_eq_true rfl) (fun _ => ?_)
      refine AW_icmp_eq 1331 dL_law_1240 (by decide) (fun h59 => ?_) (fun h59 => ?_)
      · replace hf := rk_it hf h59
        refine AW_iinc_3 (v := 6) dL_law_1331 (by decide) (by decide) rfl ?_
        refine AW_goto 18 dL_law_1334 (by decide) ?_
        refine AW_sb (rk_sbs (rk_sbs (rk_sbs (rk_sbs rk_sb0)))) ?_
        refine AW_wid (a := 9) (b := 322) ?_
        exact hc _ _ _ _ _ _ (Option.some.inj hf).symm
      · replace hf := rk_if hf h59
        refine AW_iconst (v := 0) dL_law_1243 (by decide) ?_
        exact AW_zret dL_law_1244 rfl rfl (hq _ _ _ _ _ _ (Option.some.inj hf).symm)
    replace hf := rk_if hf h58
    by_cases h60 : (x1 &&& 31) = 29
    · replace hf := rk_it hf h60
      refine AW_tableIn 1245 dL_law_33 (by rw [h60]; decide) (by rw [h60]; decide) (by rw [h60]; rfl) (by decide) ?_
      refine AW_aload_n1 dL_law_1245 ?_
      refine AW_aload_n0 dL_law_1246 ?_
      refine AW_iload_n3 dL_law_1247 ?_
      refine AW_iconst (v := 1) dL_law_1248 (by decide) ?_
      refine AW_iadd dL_law_1249 ?_
      replace hf := rk_bd hf
      obtain ⟨x194, e252, hf⟩ := hf
      refine AW_srd dL_law_1250 e252 ?_
      refine AW_aload_n0 dL_law_1251 ?_
      refine AW_iload_n3 dL_law_1252 ?_
      refine AW_iconst (v := 2) dL_law_1253 (by decide) ?_
      refine AW_iadd dL_law_1254 ?_
      replace hf := rk_bd hf
      obtain ⟨x195, e253, hf⟩ := hf
      refine AW_srd dL_law_1255 e253 ?_
      refine AW_aload_n0 dL_law_1256 ?_
      refine AW_iload_n3 dL_law_1257 ?_
      refine AW_iconst (v := 3) dL_law_1258 (by decide) ?_
      refine AW_iadd dL_law_1259 ?_
      replace hf := rk_bd hf
      obtain ⟨x196, e254, hf⟩ := hf
      refine AW_srd dL_law_1260 e254 ?_
      refine AW_aload_n0 dL_law_1261 ?_
      refine AW_iload_n3 dL_law_1262 ?_
      refine AW_iconst (v := 4) dL_law_1263 (by decide) ?_
      refine AW_iadd dL_law_1264 ?_
      replace hf := rk_bd hf
      obtain ⟨x197, e255, hf⟩ := hf
      refine AW_srd dL_law_1265 e255 ?_
      replace hf := rk_bd hf
      obtain ⟨_, e256, hf⟩ := hf
      have e256 := rk_layC_sp e256
      replace hf := rk_bd6 hf
      obtain ⟨x198, n4, S4, I50, J9, R13, e257, hf⟩ := hf
      refine AW_iV4i (kc := kc) (ks := ks + 223) (w_X9_sales (d := 3) (Nat.le_refl _) e256 e257) dL_law_1266 kl_L_141 (e256.1 0 (by decide)) rfl (Nat.le_trans (by decide) hd) (by decide) (Nat.le_of_ble_eq_true rfl) (fun hL13 => ?_)
      refine AW_aload_n2 dL_law_1269 ?_
      refine AW_aload_n0 dL_law_1270 ?_
      refine AW_iload_n3 dL_law_1271 ?_
      refine AW_iconst (v := 1) dL_law_1272 (by decide) ?_
      refine AW_iadd dL_law_1273 ?_
      replace hf := rk_bd hf
      obtain ⟨x199, e258, hf⟩ := hf
      refine AW_srd dL_law_1274 e258 ?_
      refine AW_aload_n0 dL_law_1275 ?_
      refine AW_iload_n3 dL_law_1276 ?_
      refine AW_iconst (v := 2) dL_law_1277 (by decide) ?_
      refine AW_iadd dL_law_1278 ?_
      replace hf := rk_bd hf
      obtain ⟨x200, e259, hf⟩ := hf
      refine AW_srd dL_law_1279 e259 ?_
      refine AW_aload_n0 dL_law_1280 ?_
      refine AW_iload_n3 dL_law_1281 ?_
      refine AW_iconst (v := 3) dL_law_1282 (by decide) ?_
      refine AW_iadd dL_law_1283 ?_
      replace hf := rk_bd hf
      obtain ⟨x201, e260, hf⟩ := hf
      refine AW_srd dL_law_1284 e260 ?_
      refine AW_aload_n0 dL_law_1285 ?_
      refine AW_iload_n3 dL_law_1286 ?_
      refine AW_iconst (v := 4) dL_law_1287 (by decide) ?_
      refine AW_iadd dL_law_1288 ?_
      replace hf := rk_bd hf
      obtain ⟨x202, e261, hf⟩ := hf
      refine AW_srd dL_law_1289 e261 ?_
      replace hf := rk_bd hf
      obtain ⟨_, e262, hf⟩ := hf
      have e262 := rk_layM_sp e262
      replace hf := rk_bd2 hf
      obtain ⟨x203, I51, e263, hf⟩ := hf
      refine AW_iV4iz (w_X10_sales (d := 3) (Nat.le_refl _) e262 e263) dL_law_1290 kl_L_144 (e262.1 31 (by decide) (by decide)) rfl (Nat.le_trans (by decide) hd) (by decide) (Nat.le_of_ble_eq_true rfl) (fun _ => ?_)
      refine AW_icmp_eq 1331 dL_law_1293 (by decide) (fun h61 => ?_) (fun h61 => ?_)
      · replace hf := rk_it hf h61
        refine AW_iinc_3 (v := 6) dL_law_1331 (by decide) (by decide) rfl ?_
        refine AW_goto 18 dL_law_1334 (by decide) ?_
        refine AW_sb (rk_sbs (rk_sbs (rk_sbs (rk_sbs rk_sb0)))) ?_
        refine AW_wid (a := 0) (b := 223) ?_
        exact hc _ _ _ _ _ _ (Option.some.inj hf).symm
      · replace hf := rk_if hf h61
        refine AW_iconst (v := 0) dL_law_1296 (by decide) ?_
        exact AW_zret dL_law_1297 rfl rfl (hq _ _ _ _ _ _ (Option.some.inj hf).symm)
    replace hf := rk_if hf h60
    by_cases h62 : (x1 &&& 31) = 30
    · replace hf := rk_it hf h62
      refine AW_tableIn 1298 dL_law_33 (by rw [h62]; decide) (by rw [h62]; decide) (by rw [h62]; rfl) (by decide) ?_
      refine AW_aload_n1 dL_law_1298 ?_
      refine AW_aload_n0 dL_law_1299 ?_
      refine AW_iload_n3 dL_law_1300 ?_
      refine AW_iconst (v := 1) dL_law_1301 (by decide) ?_
      refine AW_iadd dL_law_1302 ?_
      replace hf := rk_bd hf
      obtain ⟨x204, e264, hf⟩ := hf
      refine AW_srd dL_law_1303 e264 ?_
      refine AW_aload_n0 dL_law_1304 ?_
      refine AW_iload_n3 dL_law_1305 ?_
      refine AW_iconst (v := 2) dL_law_1306 (by decide) ?_
      refine AW_iadd dL_law_1307 ?_
      replace hf := rk_bd hf
      obtain ⟨x205, e265, hf⟩ := hf
      refine AW_srd dL_law_1308 e265 ?_
      replace hf := rk_bd hf
      obtain ⟨_, e266, hf⟩ := hf
      have e266 := rk_layC_sp e266
      replace hf := rk_bd hf
      obtain ⟨x206, e267, hf⟩ := hf
      refine AW_iV2iz (w_X9_taken (d := 2) (Nat.le_refl _) e266 e267) dL_law_1309 kl_L_145 (e266.1 0 (by decide)) rfl (Nat.le_trans (by decide) hd) (by decide) (Nat.le_of_ble_eq_true rfl) (fun _ => ?_)
      refine AW_aload_n2 dL_law_1312 ?_
      refine AW_aload_n0 dL_law_1313 ?_
      refine AW_iload_n3 dL_law_1314 ?_
      refine AW_iconst (v := 1) dL_law_1315 (by decide) ?_
      refine AW_iadd dL_law_1316 ?_
      replace hf := rk_bd hf
      obtain ⟨x207, e268, hf⟩ := hf
      refine AW_srd dL_law_1317 e268 ?_
      refine AW_aload_n0 dL_law_1318 ?_
      refine AW_iload_n3 dL_law_1319 ?_
      refine AW_iconst (v := 2) dL_law_1320 (by decide) ?_
      refine AW_iadd dL_law_1321 ?_
      replace hf := rk_bd hf
      obtain ⟨x208, e269, hf⟩ := hf
      refine AW_srd dL_law_1322 e269 ?_
      replace hf := rk_bd hf
      obtain ⟨_, e270, hf⟩ := hf
      have e270 := rk_layM_sp e270
      replace hf := rk_bd hf
      obtain ⟨x209, e271, hf⟩ := hf
      refine AW_iV2iz (w_X10_taken (d := 2) (Nat.le_refl _) e270 e271) dL_law_1323 kl_L_148 (e270.1 31 (by decide) (by decide)) rfl (Nat.le_trans (by decide) hd) (by decide) (Nat.le_of_ble_eq_true rfl) (fun _ => ?_)
      refine AW_icmp_eq 1331 dL_law_1326 (by decide) (fun h63 => ?_) (fun h63 => ?_)
      · replace hf := rk_it hf h63
        refine AW_iinc_3 (v := 6) dL_law_1331 (by decide) (by decide) rfl ?_
        refine AW_goto 18 dL_law_1334 (by decide) ?_
        refine AW_sb (rk_sbs (rk_sbs (rk_sbs (rk_sbs rk_sb0)))) ?_
        refine AW_wid (a := 9) (b := 322) ?_
        exact hc _ _ _ _ _ _ (Option.some.inj hf).symm
      · replace hf := rk_if hf h63
        refine AW_iconst (v := 0) dL_law_1329 (by decide) ?_
        exact AW_zret dL_law_1330 rfl rfl (hq _ _ _ _ _ _ (Option.some.inj hf).symm)
    replace hf := rk_if hf h62
    refine AW_tableOut 1331 dL_law_33 (by
    have g_h2 : ¬ ((x1 &&& 31)).toInt = 0 := fun z => h2 (Int32.toInt_inj.mp z)
    have g_h4 : ¬ ((x1 &&& 31)).toInt = 1 := fun z => h4 (Int32.toInt_inj.mp z)
    have g_h6 : ¬ ((x1 &&& 31)).toInt = 2 := fun z => h6 (Int32.toInt_inj.mp z)
    have g_h8 : ¬ ((x1 &&& 31)).toInt = 3 := fun z => h8 (Int32.toInt_inj.mp z)
    have g_h10 : ¬ ((x1 &&& 31)).toInt = 4 := fun z => h10 (Int32.toInt_inj.mp z)
    have g_h12 : ¬ ((x1 &&& 31)).toInt = 5 := fun z => h12 (Int32.toInt_inj.mp z)
    have g_h14 : ¬ ((x1 &&& 31)).toInt = 6 := fun z => h14 (Int32.toInt_inj.mp z)
    have g_h16 : ¬ ((x1 &&& 31)).toInt = 7 := fun z => h16 (Int32.toInt_inj.mp z)
    have g_h18 : ¬ ((x1 &&& 31)).toInt = 8 := fun z => h18 (Int32.toInt_inj.mp z)
    have g_h20 : ¬ ((x1 &&& 31)).toInt = 9 := fun z => h20 (Int32.toInt_inj.mp z)
    have g_h22 : ¬ ((x1 &&& 31)).toInt = 10 := fun z => h22 (Int32.toInt_inj.mp z)
    have g_h24 : ¬ ((x1 &&& 31)).toInt = 11 := fun z => h24 (Int32.toInt_inj.mp z)
    have g_h26 : ¬ ((x1 &&& 31)).toInt = 12 := fun z => h26 (Int32.toInt_inj.mp z)
    have g_h28 : ¬ ((x1 &&& 31)).toInt = 13 := fun z => h28 (Int32.toInt_inj.mp z)
    have g_h30 : ¬ ((x1 &&& 31)).toInt = 14 := fun z => h30 (Int32.toInt_inj.mp z)
    have g_h32 : ¬ ((x1 &&& 31)).toInt = 15 := fun z => h32 (Int32.toInt_inj.mp z)
    have g_h34 : ¬ ((x1 &&& 31)).toInt = 16 := fun z => h34 (Int32.toInt_inj.mp z)
    have g_h36 : ¬ ((x1 &&& 31)).toInt = 17 := fun z => h36 (Int32.toInt_inj.mp z)
    have g_h38 : ¬ ((x1 &&& 31)).toInt = 18 := fun z => h38 (Int32.toInt_inj.mp z)
    have g_h40 : ¬ ((x1 &&& 31)).toInt = 19 := fun z => h40 (Int32.toInt_inj.mp z)
    have g_h42 : ¬ ((x1 &&& 31)).toInt = 20 := fun z => h42 (Int32.toInt_inj.mp z)
    have g_h44 : ¬ ((x1 &&& 31)).toInt = 21 := fun z => h44 (Int32.toInt_inj.mp z)
    have g_h46 : ¬ ((x1 &&& 31)).toInt = 22 := fun z => h46 (Int32.toInt_inj.mp z)
    have g_h48 : ¬ ((x1 &&& 31)).toInt = 23 := fun z => h48 (Int32.toInt_inj.mp z)
    have g_h50 : ¬ ((x1 &&& 31)).toInt = 24 := fun z => h50 (Int32.toInt_inj.mp z)
    have g_h52 : ¬ ((x1 &&& 31)).toInt = 25 := fun z => h52 (Int32.toInt_inj.mp z)
    have g_h54 : ¬ ((x1 &&& 31)).toInt = 26 := fun z => h54 (Int32.toInt_inj.mp z)
    have g_h56 : ¬ ((x1 &&& 31)).toInt = 27 := fun z => h56 (Int32.toInt_inj.mp z)
    have g_h58 : ¬ ((x1 &&& 31)).toInt = 28 := fun z => h58 (Int32.toInt_inj.mp z)
    have g_h60 : ¬ ((x1 &&& 31)).toInt = 29 := fun z => h60 (Int32.toInt_inj.mp z)
    have g_h62 : ¬ ((x1 &&& 31)).toInt = 30 := fun z => h62 (Int32.toInt_inj.mp z)
    omega) (by decide) ?_
    refine AW_iinc_3 (v := 6) dL_law_1331 (by decide) (by decide) rfl ?_
    refine AW_goto 18 dL_law_1334 (by decide) ?_
    refine AW_sb (rk_sbs (rk_sbs (rk_sbs (rk_sbs rk_sb0)))) ?_
    refine AW_wid (a := 9) (b := 322) ?_
    exact hc _ _ _ _ _ _ (Option.some.inj hf).symm
theorem L_L_law_1000000_w18 {G : rk_G} {l : Launch} {d kc ks : Nat}  {Q : rk_Q}  {r : (Int32 × Nat × rk_Sh × rk_I × rk_J × rk_R) ⊕ (Int32 × Nat × rk_Sh × rk_I × rk_J × rk_R)} (hd : 69 ≤ d) (he : ∀ (w0 : Int32) (n9 : Nat) (S9 : rk_Sh) (I9 : rk_I) (J9 : rk_J) (R9 : rk_R), r = .inl (w0, n9, S9, I9, J9, R9) → AW G l yL_law cL_law 4 (some .boolean) d kc ks 1337 [some (.ref 1000000), some (.ref 0), some (.ref 31), some (.int w0)] [] n9 S9 I9 J9 R9 Q) (hq : ∀ (v9 : Int32) (n9 : Nat) (S9 : rk_Sh) (I9 : rk_I) (J9 : rk_J) (R9 : rk_R), r = .inr (v9, n9, S9, I9, J9, R9) → Q (some (.int v9)) n9 S9 I9 J9 R9) :
    ∀ (m9 : Nat) (s3 : Int32) (n : Nat) (S : rk_Sh) (I : rk_I) (J : rk_J) (R : rk_R), rk_loop (fun a9 => f_L_law_1000000_l18 G.2.2.2.2.2.1 G.2.2.2.2.2.2 a9.2.1 a9.2.2.1 a9.2.2.2.1 a9.2.2.2.2.1 a9.2.2.2.2.2 a9.1) m9 (s3, n, S, I, J, R) = some r → AW G l yL_law cL_law 4 (some .boolean) d (kc + 9 * m9) (ks + 322 * m9) 18 [some (.ref 1000000), some (.ref 0), some (.ref 31), some (.int s3)] [] n S I J R Q := by
  intro m9
  induction m9 with
  | zero => intro s3 n S I J R hf; cases hf
  | succ m9 ih =>
    intro s3 n S I J R hf 
    obtain ⟨r9, hf, hr⟩ := rk_loop_s hf
    rw [show kc + 9 * (m9 + 1) = (kc + 9 * m9) + 9 from by omega, show ks + 322 * (m9 + 1) = (ks + 322 * m9) + 322 from by omega]
    exact b_L_law_1000000_l18 hd hf (fun _ _ _ _ _ _ h9 => by subst h9; exact ih _ _ _ _ _ _ hr) (fun _ _ _ _ _ _ h9 => by subst h9; exact AW_wid (a := 9 * m9) (b := 322 * m9) (he _ _ _ _ _ _ hr.symm)) (fun _ _ _ _ _ _ h9 => by subst h9; exact hq _ _ _ _ _ _ hr.symm)
noncomputable def f_L_law_1000000 (L : Nat) (xs : Nat → Int32) (n : Nat) (S : rk_Sh) (I : rk_I) (J : rk_J) (R : rk_R)  : Option (Int32 × Nat × rk_Sh × rk_I × rk_J × rk_R) :=
(some (rk_sh S 0 8 17)).bind fun S1 =>
(some (rk_zi I 0)).bind fun I1 =>
(some (rk_zj J 0)).bind fun J1 =>
(some (rk_zr R 0)).bind fun R1 =>
rk_b4 (f_X9_init S1 I1 J1 R1) fun S2 I2 J2 R2 =>
(some (rk_sh S2 31 9 46)).bind fun S3 =>
(some (rk_zi I2 31)).bind fun I3 =>
(some (rk_zj J2 31)).bind fun J3 =>
(some (rk_zr R2 31)).bind fun R3 =>
rk_b4 (f_X10_init S3 I3 J3 R3) fun S4 I4 J4 R4 =>
(rk_loop (fun a9 => f_L_law_1000000_l18 L xs a9.2.1 a9.2.2.1 a9.2.2.2.1 a9.2.2.2.2.1 a9.2.2.2.2.2 a9.1) 513 (0, 57, S4, I4, J4, R4)).bind fun q9 => rk_sc q9 (fun b9 => rk_p6 b9 (fun x1 n1 S5 I5 J5 R5 => (
some (1, n1, S5, I5, J5, R5)))) (fun q8 => some q8)
theorem b_L_law_1000000 {G : rk_G} {l : Launch} {d : Nat} {S : rk_Sh} {I : rk_I} {J : rk_J} {R : rk_R} {Q : rk_Q}  {r : Int32 × Nat × rk_Sh × rk_I × rk_J × rk_R} (hd : 69 ≤ d) (hf : f_L_law_1000000 G.2.2.2.2.2.1 G.2.2.2.2.2.2 0 S I J R = some r) (hq : ∀ (v9 : Int32) (n9 : Nat) (S9 : rk_Sh) (I9 : rk_I) (J9 : rk_J) (R9 : rk_R), r = (v9, n9, S9, I9, J9, R9) → Q (some (.int v9)) n9 S9 I9 J9 R9) :
    AW G l yL_law cL_law 4 (some .boolean) d 4674 168323 0 [some (.ref 1000000), none, none, none] [] 0 S I J R Q := by
  unfold f_L_law_1000000 at hf
  replace hf := rk_bd hf
  obtain ⟨S1, e2, hf⟩ := hf
  replace hf := rk_bd hf
  obtain ⟨I1, e3, hf⟩ := hf
  replace hf := rk_bd hf
  obtain ⟨J1, e4, hf⟩ := hf
  replace hf := rk_bd hf
  obtain ⟨R1, e5, hf⟩ := hf
  refine AW_nwO dL_law_0 kc_L_7 (by decide) e2 e3 e4 e5 ?_
  refine AW_dup dL_law_3 rfl ?_
  replace hf := rk_bd4 hf
  obtain ⟨S2, I2, J2, R2, e6, hf⟩ := hf
  refine AW_iI0v (w_X9_init (d := 65) (Nat.le_refl _) e6) dL_law_4 kl_L_9 (Nat.le_trans (by decide) hd) (by decide) (Nat.le_of_ble_eq_true rfl) (fun hL1 => ?_)
  refine AW_astore_n1 dL_law_7 (by decide) rfl ?_
  replace hf := rk_bd hf
  obtain ⟨S3, e8, hf⟩ := hf
  replace hf := rk_bd hf
  obtain ⟨I3, e9, hf⟩ := hf
  replace hf := rk_bd hf
  obtain ⟨J3, e10, hf⟩ := hf
  replace hf := rk_bd hf
  obtain ⟨R3, e11, hf⟩ := hf
  refine AW_nwO dL_law_8 kc_L_10 (by decide) e8 e9 e10 e11 ?_
  refine AW_dup dL_law_11 rfl ?_
  replace hf := rk_bd4 hf
  obtain ⟨S4, I4, J4, R4, e12, hf⟩ := hf
  refine AW_iI0v (w_X10_init (d := 1) (Nat.le_refl _) e12) dL_law_12 kl_L_12 (Nat.le_trans (by decide) hd) (by decide) (Nat.le_of_ble_eq_true rfl) (fun _ => ?_)
  refine AW_astore_n2 dL_law_15 (by decide) rfl ?_
  refine AW_iconst (v := 0) dL_law_16 (by decide) ?_
  refine AW_istore_n3 dL_law_17 (by decide) rfl ?_
  refine AW_sb (rk_sbs (rk_sbs (rk_sbs (rk_sbs rk_sb0)))) ?_
  replace hf := rk_bd hf
  obtain ⟨q9, e13, hf⟩ := hf
  refine L_L_law_1000000_w18 (kc := 0) (ks := 0) (Nat.le_trans (by decide) hd) ?_ ?_ 513 _ _ _ _ _ _ e13
  · intro x1 n1 S5 I5 J5 R5 h9
    subst h9
    replace hf := rk_scp6 hf
    refine AW_iconst (v := 1) dL_law_1337 (by decide) ?_
    exact AW_zret dL_law_1338 rfl rfl (hq _ _ _ _ _ _ (Option.some.inj hf).symm)
  · intro v7 n7 S7 I7 J7 R7 h9
    subst h9
    replace hf := rk_sc_r hf
    exact hq _ _ _ _ _ _ (Option.some.inj hf).symm
theorem w_L_law_1000000 {G : rk_G} {l : Launch} {d : Nat} {S : rk_Sh} {I : rk_I} {J : rk_J} {R : rk_R}  {v8 : Int32} {n8 : Nat} {S8 : rk_Sh} {I8 : rk_I} {J8 : rk_J} {R8 : rk_R} (hd : 69 ≤ d) (hf : f_L_law_1000000 G.2.2.2.2.2.1 G.2.2.2.2.2.2 0 S I J R = some (v8, n8, S8, I8, J8, R8)) :
    CW G l yL_law cL_law 4 (some .boolean) d 4674 168323 [.ref 1000000] 0 S I J R (rk_qi v8 n8 S8 I8 J8 R8 True) :=
  CW.of (by decide +kernel) (Nat.le_of_ble_eq_true rfl) (rk_sbs (rk_sbe (rk_sbe (rk_sbe rk_sb0)))) (b_L_law_1000000 hd hf (fun v9 n9 S9 I9 J9 R9 h9 => by cases h9; exact ⟨rfl, rfl, rfl, rfl, rfl, rfl, trivial⟩))
