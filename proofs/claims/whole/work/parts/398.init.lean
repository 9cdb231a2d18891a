/-! THE CONSTRUCTORS as chains of stores (printed by gen_init.py) -/
def i9_S (S : rk_Sh) : rk_Sh := rk_sh (rk_sh (rk_sh (rk_sh (rk_sh (rk_sh (rk_sh (rk_sh (rk_sh (rk_sh (rk_sh (rk_sh (rk_sh (rk_sh (rk_sh (rk_sh (rk_sh (rk_sh (rk_sh (rk_sh (rk_sh (rk_sh (rk_sh (rk_sh (rk_sh (rk_sh (rk_sh S 1 22 4) 2 23 24) 3 24 6) 4 2 10) 5 20 160) 6 20 161) 7 20 161) 8 20 160) 9 20 3) 10 3 2) 11 20 160) 12 1 5) 13 20 10) 14 23 24) 15 20 24) 16 4 4) 17 20 10) 18 25 4) 19 20 10) 20 6 3) 21 20 40) 22 6 3) 23 20 40) 24 6 3) 25 20 40) 26 6 3) 27 20 40
def i9_I (I : rk_I) : rk_I := rk_ui (rk_zi (rk_zi (rk_ui (rk_zi (rk_zi (rk_ui (rk_zi (rk_zi (rk_ui (rk_zi (rk_zi (rk_zi (rk_zi (rk_zi (rk_zi (rk_zi (rk_zi (rk_zi (rk_zi (rk_zi (rk_zi (rk_zi (rk_zi (rk_zi (rk_zi (rk_zi (rk_zi (rk_zi (rk_zi (rk_zi I 1) 2) 3) 4) 5) 6) 7) 8) 9) 10) 11) 12) 13) 14) 15) 16) 17) 18) 19) 20) 21) 20 1 (-1)) 22) 23) 22 1 (-1)) 24) 25) 24 1 (-1)) 26) 27) 26 1 (-1)
def i9_J (J : rk_J) : rk_J := rk_zj (rk_zj (rk_zj (rk_zj (rk_zj (rk_zj (rk_zj (rk_zj (rk_zj (rk_zj (rk_zj (rk_zj (rk_zj (rk_zj (rk_zj (rk_zj (rk_zj (rk_zj (rk_zj (rk_zj (rk_zj (rk_zj (rk_zj (rk_zj (rk_zj (rk_zj (rk_zj J 1) 2) 3) 4) 5) 6) 7) 8) 9) 10) 11) 12) 13) 14) 15) 16) 17) 18) 19) 20) 21) 22) 23) 24) 25) 26) 27
def i9_R (R : rk_R) : rk_R := rk_ur (rk_ur (rk_zr (rk_zr (rk_ur (rk_ur (rk_zr (rk_zr (rk_ur (rk_ur (rk_zr (rk_zr (rk_ur (rk_ur (rk_zr (rk_zr (rk_ur (rk_zr (rk_ur (rk_zr (rk_ur (rk_ur (rk_zr (rk_zr (rk_ur (rk_ur (rk_zr (rk_ur (rk_zr (rk_ur (rk_zr (rk_zr (rk_ur (rk_ur (rk_zr (rk_zr (rk_ur (rk_ur (rk_zr (rk_ur (rk_zr (rk_ur (rk_zr (rk_ur (rk_zr (rk_ur (rk_zr (rk_zr (rk_ur (rk_zr (rk_ur (rk_zr (rk_ur (rk_zr R 1) 0 0 (some 1)) 2) 0 2 (some 2)) 3) 0 4 (some 3)) 4) 5) 4 0 (some 5)) 6) 4 2 (some 6)) 7) 4 3 (some 7)) 8) 4 7 (some 8)) 9) 4 9 (some 9)) 0 7 (some 4)) 10) 11) 10 0 (some 11)) 0 8 (some 10)) 12) 13) 12 0 (some 13)) 14) 12 1 (some 14)) 15) 12 2 (some 15)) 0 9 (some 12)) 16) 17) 16 0 (some 17)) 0 10 (some 16)) 18) 0 11 (some 18)) 19) 0 12 (some 19)) 20) 21) 20 0 (some 21)) 18 0 (some 20)) 22) 23) 22 0 (some 23)) 18 1 (some 22)) 24) 25) 24 0 (some 25)) 18 2 (some 24)) 26) 27) 26 0 (some 27)) 18 3 (some 26)
noncomputable def i9_N (S : rk_Sh) (I : rk_I) (J : rk_J) (R : rk_R) : Option (rk_Sh × rk_I × rk_J × rk_R) :=
rk_b2 (rk_while (fun a9 => f_X9_init_l118 S a9.2 J R a9.1) (0, I)) fun x1 I22 =>
(rk_ck S 0 8 17).bind fun _ =>
(rk_ckR R 0 7 4).bind fun _ =>
(rk_ck S 4 2 10).bind fun _ =>
(rk_layC S R).bind fun _ =>
rk_b2 (f_X2_read I22) fun x2 I23 =>
(rk_ckR R 0 4 3).bind fun _ =>
(rk_ckR R 0 7 4).bind fun _ =>
rk_b6 (f_X2_asText 28 S I23 J R) fun o1 n1 S22 I24 J22 R35 =>
(rk_ck S22 3 24 6).bind fun _ =>
(rk_ck S22 o1 7 2).bind fun _ =>
(rk_wrR R35 3 6 0 o1).bind fun R36 =>
(rk_ck S22 0 8 17).bind fun _ =>
(some (rk_ui I24 0 5 1)).bind fun I25 =>
(rk_ckR R36 0 7 4).bind fun _ =>
(rk_ck S22 4 2 10).bind fun _ =>
(rk_layC S22 R36).bind fun _ =>
(f_X2_empty I25).bind fun I26 =>
(rk_ckn n1 31).bind fun _ =>
some (S22, I26, J22, R36)
set_option maxHeartbeats 4000000 in
theorem i9_a (S : rk_Sh) (I : rk_I) (J : rk_J) (R : rk_R) : f_X9_init (rk_sh S 0 8 17) I J R = i9_N (i9_S (rk_sh S 0 8 17)) (i9_I I) (i9_J J) (i9_R R) := rfl
def i10_S (S : rk_Sh) : rk_Sh := rk_sh (rk_sh (rk_sh (rk_sh (rk_sh (rk_sh (rk_sh (rk_sh (rk_sh (rk_sh (rk_sh (rk_sh (rk_sh (rk_sh (rk_sh (rk_sh (rk_sh (rk_sh (rk_sh (rk_sh (rk_sh (rk_sh (rk_sh (rk_sh (rk_sh S 32 20 960) 33 20 6) 34 20 160) 35 20 4) 36 20 4) 37 20 12) 38 20 24) 39 20 24) 40 20 24) 41 20 24) 42 20 24) 43 20 24) 44 20 24) 45 20 24) 46 20 24) 47 20 10) 48 20 24) 49 20 10) 50 20 12) 51 20 24) 52 20 24) 53 21 4) 54 20 4) 55 20 4) 56 20 160
def i10_I (I : rk_I) : rk_I := rk_zi (rk_zi (rk_zi (rk_zi (rk_zi (rk_zi (rk_zi (rk_zi (rk_zi (rk_zi (rk_zi (rk_zi (rk_zi (rk_zi (rk_zi (rk_zi (rk_zi (rk_zi (rk_zi (rk_zi (rk_zi (rk_zi (rk_zi (rk_zi (rk_zi I 32) 33) 34) 35) 36) 37) 38) 39) 40) 41) 42) 43) 44) 45) 46) 47) 48) 49) 50) 51) 52) 53) 54) 55) 56
def i10_J (J : rk_J) : rk_J := rk_zj (rk_zj (rk_zj (rk_zj (rk_zj (rk_zj (rk_zj (rk_zj (rk_zj (rk_zj (rk_zj (rk_zj (rk_zj (rk_zj (rk_zj (rk_zj (rk_zj (rk_zj (rk_zj (rk_zj (rk_zj (rk_zj (rk_zj (rk_zj (rk_zj J 32) 33) 34) 35) 36) 37) 38) 39) 40) 41) 42) 43) 44) 45) 46) 47) 48) 49) 50) 51) 52) 53) 54) 55) 56
def i10_R (R : rk_R) : rk_R := rk_ur (rk_zr (rk_ur (rk_zr (rk_ur (rk_zr (rk_ur (rk_zr (rk_ur (rk_zr (rk_ur (rk_zr (rk_ur (rk_zr (rk_ur (rk_zr (rk_ur (rk_zr (rk_ur (rk_zr (rk_ur (rk_zr (rk_ur (rk_zr (rk_ur (rk_zr (rk_ur (rk_zr (rk_ur (rk_zr (rk_ur (rk_zr (rk_ur (rk_zr (rk_ur (rk_zr (rk_ur (rk_zr (rk_ur (rk_zr (rk_ur (rk_zr (rk_ur (rk_zr (rk_ur (rk_zr (rk_ur (rk_zr (rk_ur (rk_zr R 32) 31 1 (some 32)) 33) 31 2 (some 33)) 34) 31 5 (some 34)) 35) 31 7 (some 35)) 36) 31 8 (some 36)) 37) 31 9 (some 37)) 38) 31 11 (some 38)) 39) 31 12 (some 39)) 40) 31 13 (some 40)) 41) 31 14 (some 41)) 42) 31 15 (some 42)) 43) 31 16 (some 43)) 44) 31 17 (some 44)) 45) 31 18 (some 45)) 46) 31 19 (some 46)) 47) 31 21 (some 47)) 48) 31 22 (some 48)) 49) 31 34 (some 49)) 50) 31 35 (some 50)) 51) 31 36 (some 51)) 52) 31 37 (some 52)) 53) 31 42 (some 53)) 54) 31 43 (some 54)) 55) 31 44 (some 55)) 56) 31 45 (some 56)
noncomputable def i10_N (S : rk_Sh) (I : rk_I) (J : rk_J) (R : rk_R) : Option (rk_Sh × rk_I × rk_J × rk_R) :=
(rk_layM S R).bind fun _ =>
(f_X10_spell I 0 7809651206517694524).bind fun I26 =>
(f_X10_spell I26 8 2335238957008170272).bind fun I27 =>
(f_X10_spell I27 16 3832598721210840436).bind fun I28 =>
(f_X10_spell I28 24 2319389246415402095).bind fun I29 =>
(f_X10_spell I29 32 8079572559423742012).bind fun I30 =>
(f_X10_spell I30 40 2319969673038274592).bind fun I31 =>
(rk_ckR R 31 2 33).bind fun _ =>
(rk_ck S 33 20 6).bind fun _ =>
(rk_wr I31 33 6 0 48).bind fun I32 =>
(some (rk_ui I32 31 3 1)).bind fun I33 =>
some (S, I33, J, R)
set_option maxHeartbeats 4000000 in
theorem i10_a (S : rk_Sh) (I : rk_I) (J : rk_J) (R : rk_R) : f_X10_init (rk_sh S 31 9 46) I J R = i10_N (i10_S (rk_sh S 31 9 46)) (i10_I I) (i10_J J) (i10_R R) := rfl
