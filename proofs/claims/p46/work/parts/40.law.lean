def f_law_802  (xs : Nat → Int32) (nn : Nat) (τ : PvS) (xb12 : Int32) : Option (Int32 × PvS) :=
  ob1 (f_X9_nodes τ) (fun r1 => ob2 (f_X9_takeAway τ xb12) (fun r6 σ7 => if r6 < 1 then (some (0, σ7)) else (ob1 (f_X9_nodes σ7) (fun r13 => if r13 = (r1 - r6) then (ob1 (f_X9_isThere σ7 xb12) (fun r19 => if r19 = 0 then (ob2 (f_L_isSound σ7) (fun r25 σ26 => if r25 = 0 then (some (0, σ26)) else (some (1, σ26)))) else (some (0, σ7)))) else (some (0, σ7))))))
def f_law_743  (xs : Nat → Int32) (nn : Nat) (τ : PvS) (xb5 : Int64) (xb12 : Int32) : Option (Int32 × PvS) :=
  ob1 (f_X9_rules τ) (fun r32 => if r32 ≤ 0 then (f_law_802 xs nn τ xb12) else (gd (¬ (6 : Int32) < 0) (nm (f_cell xs nn (6 : Int32)) (fun r39 => ob1 (f_X9_rules τ) (fun r45 => ob1 (f_L_below τ r39 r45) (fun r50 => ob2 (f_X9_turn τ r50) (fun r55 σ56 => if r55 = 0 then (ob2 (f_L_isSound σ56) (fun r62 σ63 => if r62 = 0 then (some (0, σ63)) else (ob2 (f_X9_turn σ63 r50) (fun r69 σ70 => if r69 = 0 then (some (0, σ70)) else (ob2 (f_X9_digest σ70) (fun r76 σ77 => if (lg_cmp r76 xb5) = 0 then (f_law_802 xs nn σ77 xb12) else (some (0, σ77)))))))) else (some (0, σ56)))))))))
def f_law_693  (xs : Nat → Int32) (nn : Nat) (τ : PvS) (xb5 : Int64) (xb12 : Int32) (xb13 : Int32) (xb14 : Int32) : Option (Int32 × PvS) :=
  ob2 (f_X9_move τ xb12 0 0) (fun r83 σ84 => if r83 < 1 then (some (0, σ84)) else (ob2 (f_L_isSound σ84) (fun r90 σ91 => if r90 = 0 then (some (0, σ91)) else (ob2 (f_X9_move σ91 xb12 xb13 xb14) (fun r97 σ98 => ob1 (f_X9_size σ98 xb13) (fun r103 => if r97 = r103 then (ob2 (f_X9_digest σ98) (fun r109 σ110 => if (lg_cmp r109 xb5) = 0 then (f_law_743 xs nn σ110 xb5 xb12) else (some (0, σ110)))) else (some (0, σ98))))))))
def f_law_674  (xs : Nat → Int32) (nn : Nat) : Nat → PvS → Int64 → Int32 → Int32 → Int32 → Option (Int32 × PvS)
  | 0, _, _, _, _, _ => none
  | n + 1, τ, xb5, xb12, xb13, xb14 => ob1 (f_X9_childAt τ xb13 xb14) (fun r116 => if r116 = xb12 then (f_law_693 xs nn τ xb5 xb12 xb13 xb14) else (f_law_674 xs nn n τ xb5 xb12 xb13 (xb14 + 1)))
theorem f_law_674_z {xs : Nat → Int32} {nn : Nat} {τ : PvS} {xb5 : Int64} {xb12 : Int32} {xb13 : Int32} {xb14 : Int32} : f_law_674 xs nn 0 τ xb5 xb12 xb13 xb14 = none := rfl
theorem f_law_674_s {n : Nat} {xs : Nat → Int32} {nn : Nat} {τ : PvS} {xb5 : Int64} {xb12 : Int32} {xb13 : Int32} {xb14 : Int32} : f_law_674 xs nn (n + 1) τ xb5 xb12 xb13 xb14 = ob1 (f_X9_childAt τ xb13 xb14) (fun r116 => if r116 = xb12 then (f_law_693 xs nn τ xb5 xb12 xb13 xb14) else (f_law_674 xs nn n τ xb5 xb12 xb13 (xb14 + 1))) := rfl
def f_law_648  (xs : Nat → Int32) (nn : Nat) (τ : PvS) (xb2 : Int32) (xb5 : Int64) : Option (Int32 × PvS) :=
  gd (¬ (5 : Int32) < 0) (nm (f_cell xs nn (5 : Int32)) (fun r123 => ob1 (f_L_below τ r123 (xb2 - 1)) (fun r129 => ob1 (f_X9_parent τ (1 + r129)) (fun r134 => f_law_674 xs nn fu τ xb5 (1 + r129) r134 0))))
def f_law_597  (xs : Nat → Int32) (nn : Nat) (τ : PvS) (xb2 : Int32) (xb5 : Int64) (xb7 : Int32) (xb8 : Int32) (xb9 : Int32) : Option (Int32 × PvS) :=
  ob2 (f_X9_setView τ xb7) (fun r139 σ140 => ob2 (f_X9_pageHeight σ140) (fun r145 σ146 => if r145 = xb8 then (ob2 (f_X9_heightIn σ146 r139) (fun r152 σ153 => if r152 = xb9 then (ob2 (f_X9_setView σ153 r139) (fun r159 σ160 => if r159 = xb7 then (ob2 (f_X9_digest σ160) (fun r166 σ167 => if (lg_cmp r166 xb5) = 0 then (f_law_648 xs nn σ167 xb2 xb5) else (some (0, σ167)))) else (some (0, σ160)))) else (some (0, σ153)))) else (some (0, σ146))))
def f_law_557  (xs : Nat → Int32) (nn : Nat) (τ : PvS) (xb2 : Int32) (xb5 : Int64) (xb7 : Int32) (xb8 : Int32) (xb9 : Int32) (xbs0 : Int32) : Option (Int32 × PvS) :=
  if xbs0 < 0 then (some (0, τ)) else (ob1 (f_X9_nodes τ) (fun r174 => if r174 < xbs0 then (some (0, τ)) else (ob2 (f_X9_hit τ (-5000) 0) (fun r180 σ181 => if r180 = (-1) then (ob2 (f_X9_digest σ181) (fun r187 σ188 => if (lg_cmp r187 xb5) = 0 then (f_law_597 xs nn σ188 xb2 xb5 xb7 xb8 xb9) else (some (0, σ188)))) else (some (0, σ181))))))
def f_law_485  (xs : Nat → Int32) (nn : Nat) (τ : PvS) (xb2 : Int32) : Option (Int32 × PvS) :=
  ob2 (f_L_isSound τ) (fun r194 σ195 => if r194 = 0 then (some (0, σ195)) else (ob2 (f_X9_digest σ195) (fun r201 σ202 => gd (¬ (3 : Int32) < 0) (nm (f_cell xs nn (3 : Int32)) (fun r208 => ob1 (f_L_below σ202 r208 500) (fun r214 => ob2 (f_X9_heightIn σ202 (20 + r214)) (fun r219 σ220 => ob2 (f_X9_pageHeight σ220) (fun r225 σ226 => ob1 (f_X9_rules σ226) (fun r231 => if r231 = 0 then (f_law_557 xs nn σ226 xb2 r201 (20 + r214) r219 r225 0) else (gd (¬ (4 : Int32) < 0) (nm (f_cell xs nn (4 : Int32)) (fun r238 => ob1 (f_X9_rules σ226) (fun r244 => ob1 (f_L_below σ226 r238 r244) (fun r249 => ob2 (f_X9_changedBy σ226 r249) (fun r254 σ255 => f_law_557 xs nn σ255 xb2 r201 (20 + r214) r219 r225 r254)))))))))))))))
def f_law_153 (k98 : PvS → Int32 → Nat → Nat → Int32 → Option (Int32 × PvS)) (xs : Nat → Int32) (nn : Nat) : Nat → PvS → Int32 → Nat → Nat → Int32 → Int32 → Int32 → Int32 → Option (Int32 × PvS)
  | 0, _, _, _, _, _, _, _, _ => none
  | n + 1, τ, xb2, ub3, ub4, xb5, xb6, xb7, xb8 => if xb8 ≤ 0 then (k98 τ xb2 ub3 ub4 (xb5 + 1)) else (ob1 (f_X9_size τ xb7) (fun r261 => if 20 ≤ r261 then (k98 τ xb2 ub3 ub4 (xb5 + 1)) else (ob1 (f_L_below τ (xb6 >>> (xb8 &&& 31)) 12) (fun r267 => ob2 (f_X9_addWord τ xb7 (1 + r267)) (fun r272 σ273 => f_law_153 k98 xs nn n σ273 xb2 ub3 ub4 xb5 xb6 xb7 (xb8 + (-1)))))))
theorem f_law_153_z {k98 : PvS → Int32 → Nat → Nat → Int32 → Option (Int32 × PvS)} {xs : Nat → Int32} {nn : Nat} {τ : PvS} {xb2 : Int32} {ub3 : Nat} {ub4 : Nat} {xb5 : Int32} {xb6 : Int32} {xb7 : Int32} {xb8 : Int32} : f_law_153 k98 xs nn 0 τ xb2 ub3 ub4 xb5 xb6 xb7 xb8 = none := rfl
theorem f_law_153_s {n : Nat} {k98 : PvS → Int32 → Nat → Nat → Int32 → Option (Int32 × PvS)} {xs : Nat → Int32} {nn : Nat} {τ : PvS} {xb2 : Int32} {ub3 : Nat} {ub4 : Nat} {xb5 : Int32} {xb6 : Int32} {xb7 : Int32} {xb8 : Int32} : f_law_153 k98 xs nn (n + 1) τ xb2 ub3 ub4 xb5 xb6 xb7 xb8 = if xb8 ≤ 0 then (k98 τ xb2 ub3 ub4 (xb5 + 1)) else (ob1 (f_X9_size τ xb7) (fun r261 => if 20 ≤ r261 then (k98 τ xb2 ub3 ub4 (xb5 + 1)) else (ob1 (f_L_below τ (xb6 >>> (xb8 &&& 31)) 12) (fun r267 => ob2 (f_X9_addWord τ xb7 (1 + r267)) (fun r272 σ273 => f_law_153 k98 xs nn n σ273 xb2 ub3 ub4 xb5 xb6 xb7 (xb8 + (-1))))))) := rfl
def f_law_430 (k98 : PvS → Int32 → Nat → Nat → Int32 → Option (Int32 × PvS)) (xs : Nat → Int32) (nn : Nat) (τ : PvS) (xb2 : Int32) (ub3 : Nat) (ub4 : Nat) (xb5 : Int32) (xb6 : Int32) (xb7 : Int32) (xbs0 : Int32) (xbs1 : Int32) (xbs2 : Int32) : Option (Int32 × PvS) :=
  ob2 (f_X9_addRule τ xbs2 xbs1 xbs0) (fun r278 σ279 => gd (vin xb7 (pvLen σ279 51 ub3)) (nm (σ279.2.2.1 51 xb7.toNatClampNeg ub3) (fun o291 => oc o291 none (fun jo291 => gd (vin (2) (pvLen σ279 52 jo291)) (ob2 (f_X9_addPart σ279 r278 (σ279.2.2.2.1 52 jo291 (2 : Int32).toNatClampNeg) (-1) 0 0) (fun r293 σ294 => ob1 (f_L_below σ294 (xb6 >>> (8 &&& 31)) 3) (fun r299 => if r299 = 0 then (ob1 (f_L_below σ294 (xb6 >>> (2 &&& 31)) 90) (fun r305 => ob2 (f_X9_scroll σ294 xb7 r305) (fun r310 σ311 => k98 σ311 xb2 ub3 ub4 (xb5 + 1)))) else (k98 σ294 xb2 ub3 ub4 (xb5 + 1)))))))))
def f_law_98  (xs : Nat → Int32) (nn : Nat) : Nat → PvS → Int32 → Nat → Nat → Int32 → Option (Int32 × PvS)
  | 0, _, _, _, _, _ => none
  | n + 1, τ, xb2, ub3, ub4, xb5 => if 14 ≤ xb5 then (f_law_485 xs nn τ xb2) else (gd (¬ xb5 < 0) (nm (f_cell xs nn xb5) (fun r318 => gd (¬ (15 - xb5) < 0) (nm (f_cell xs nn (15 - xb5)) (fun r325 => ob1 (f_L_below τ ((r318 * 3) + r325) xb2) (fun r331 => gd (vin r331 (pvLen τ 51 ub3)) (nm (τ.2.2.1 51 r331.toNatClampNeg ub3) (fun o337 => oc o337 none (fun jo337 => gd (vin (1) (pvLen τ 52 jo337)) (if (τ.2.2.2.1 52 jo337 (1 : Int32).toNatClampNeg) = 1 then (ob1 (f_L_below τ (((r318 * 3) + r325) >>> (3 &&& 31)) 5) (fun r460 => f_law_153 (f_law_98 xs nn n) xs nn fu τ xb2 ub3 ub4 xb5 ((r318 * 3) + r325) r331 r460)) else (ob1 (f_L_below τ (((r318 * 3) + r325) >>> (2 &&& 31)) 12) (fun r340 => gd (vin r340 (pvLen τ 53 ub4)) (nm (pvArr τ 54 0 (fun _ => 0)) (fun σ346 => ob1 (f_L_below σ346 (((r318 * 3) + r325) >>> (5 &&& 31)) 2) (fun r355 => gd (vin (0) (pvLen σ346 54 (τ.1 5))) (nm (pvA σ346 54 (τ.1 5) ((0 : Int32).toNatClampNeg) (1 + r355)) (fun σ361 => ob1 (f_L_below σ361 (((r318 * 3) + r325) >>> (4 &&& 31)) 150) (fun r362 => gd (vin (1) (pvLen σ361 54 (τ.1 5))) (nm (pvA σ361 54 (τ.1 5) ((1 : Int32).toNatClampNeg) r362) (fun σ368 => ob1 (f_L_below σ368 (((r318 * 3) + r325) >>> (4 &&& 31)) 60) (fun r369 => gd (vin (2) (pvLen σ368 54 (τ.1 5))) (nm (pvA σ368 54 (τ.1 5) ((2 : Int32).toNatClampNeg) r369) (fun σ375 => ob1 (f_L_below σ375 (((r318 * 3) + r325) >>> (5 &&& 31)) 12) (fun r376 => gd (vin (3) (pvLen σ375 54 (τ.1 5))) (nm (pvA σ375 54 (τ.1 5) ((3 : Int32).toNatClampNeg) r376) (fun σ382 => ob1 (f_L_below σ382 (((r318 * 3) + r325) >>> (5 &&& 31)) 9) (fun r383 => gd (vin (4) (pvLen σ382 54 (τ.1 5))) (nm (pvA σ382 54 (τ.1 5) ((4 : Int32).toNatClampNeg) r383) (fun σ389 => ob1 (f_L_below σ389 (((r318 * 3) + r325) >>> (6 &&& 31)) 5) (fun r390 => gd (vin (5) (pvLen σ389 54 (τ.1 5))) (nm (pvA σ389 54 (τ.1 5) ((5 : Int32).toNatClampNeg) r390) (fun σ396 => ob1 (f_L_below σ396 (((r318 * 3) + r325) >>> (4 &&& 31)) 3) (fun r397 => gd (vin (6) (pvLen σ396 54 (τ.1 5))) (nm (pvA σ396 54 (τ.1 5) ((6 : Int32).toNatClampNeg) r397) (fun σ403 => ob1 (f_L_below σ403 (((r318 * 3) + r325) >>> (4 &&& 31)) 4) (fun r404 => gd (vin (7) (pvLen σ403 54 (τ.1 5))) (nm (pvA σ403 54 (τ.1 5) ((7 : Int32).toNatClampNeg) r404) (fun σ410 => gd (vin (8) (pvLen σ410 54 (τ.1 5))) (nm (pvA σ410 54 (τ.1 5) ((8 : Int32).toNatClampNeg) 0) (fun σ412 => ob1 (f_L_below σ412 (((r318 * 3) + r325) >>> (5 &&& 31)) 12) (fun r413 => gd (vin (9) (pvLen σ412 54 (τ.1 5))) (nm (pvA σ412 54 (τ.1 5) ((9 : Int32).toNatClampNeg) (1 + r413)) (fun σ419 => ob1 (f_L_below σ419 (((r318 * 3) + r325) >>> (4 &&& 31)) 3) (fun r420 => gd (vin (10) (pvLen σ419 54 (τ.1 5))) (nm (pvA σ419 54 (τ.1 5) ((10 : Int32).toNatClampNeg) r420) (fun σ426 => ob1 (f_L_below σ426 (((r318 * 3) + r325) >>> (5 &&& 31)) 2) (fun r427 => gd (vin (11) (pvLen σ426 54 (τ.1 5))) (nm (pvA σ426 54 (τ.1 5) ((11 : Int32).toNatClampNeg) r427) (fun σ433 => ob1 (f_L_below σ433 (((r318 * 3) + r325) >>> (4 &&& 31)) 61) (fun r434 => gd (vin (12) (pvLen σ433 54 (τ.1 5))) (nm (pvA σ433 54 (τ.1 5) ((12 : Int32).toNatClampNeg) (r434 - 30)) (fun σ440 => gd (vin (τ.2.2.2.1 53 ub4 r340.toNatClampNeg) (pvLen σ440 54 (τ.1 5))) (ob1 (f_L_below σ440 (((r318 * 3) + r325) >>> (6 &&& 31)) 2) (fun r442 => if r442 = 0 then (ob2 (f_X9_declare σ440 r331 (τ.2.2.2.1 53 ub4 r340.toNatClampNeg) (σ440.2.2.2.1 54 (τ.1 5) (τ.2.2.2.1 53 ub4 r340.toNatClampNeg).toNatClampNeg)) (fun r454 σ455 => f_law_98 xs nn n σ455 xb2 ub3 ub4 (xb5 + 1))) else (ob1 (f_L_below σ440 (((r318 * 3) + r325) >>> (7 &&& 31)) 4) (fun r448 => if r448 = 0 then (f_law_430 (f_law_98 xs nn n) xs nn σ440 xb2 ub3 ub4 xb5 ((r318 * 3) + r325) r331 1 (σ440.2.2.2.1 54 (τ.1 5) (τ.2.2.2.1 53 ub4 r340.toNatClampNeg).toNatClampNeg) (τ.2.2.2.1 53 ub4 r340.toNatClampNeg)) else (f_law_430 (f_law_98 xs nn n) xs nn σ440 xb2 ub3 ub4 xb5 ((r318 * 3) + r325) r331 0 (σ440.2.2.2.1 54 (τ.1 5) (τ.2.2.2.1 53 ub4 r340.toNatClampNeg).toNatClampNeg) (τ.2.2.2.1 53 ub4 r340.toNatClampNeg))))))))))))))))))))))))))))))))))))))))))))))))))))))))))
theorem f_law_98_z {xs : Nat → Int32} {nn : Nat} {τ : PvS} {xb2 : Int32} {ub3 : Nat} {ub4 : Nat} {xb5 : Int32} : f_law_98 xs nn 0 τ xb2 ub3 ub4 xb5 = none := rfl
theorem f_law_98_s {n : Nat} {xs : Nat → Int32} {nn : Nat} {τ : PvS} {xb2 : Int32} {ub3 : Nat} {ub4 : Nat} {xb5 : Int32} : f_law_98 xs nn (n + 1) τ xb2 ub3 ub4 xb5 = if 14 ≤ xb5 then (f_law_485 xs nn τ xb2) else (gd (¬ xb5 < 0) (nm (f_cell xs nn xb5) (fun r318 => gd (¬ (15 - xb5) < 0) (nm (f_cell xs nn (15 - xb5)) (fun r325 => ob1 (f_L_below τ ((r318 * 3) + r325) xb2) (fun r331 => gd (vin r331 (pvLen τ 51 ub3)) (nm (τ.2.2.1 51 r331.toNatClampNeg ub3) (fun o337 => oc o337 none (fun jo337 => gd (vin (1) (pvLen τ 52 jo337)) (if (τ.2.2.2.1 52 jo337 (1 : Int32).toNatClampNeg) = 1 then (ob1 (f_L_below τ (((r318 * 3) + r325) >>> (3 &&& 31)) 5) (fun r460 => f_law_153 (f_law_98 xs nn n) xs nn fu τ xb2 ub3 ub4 xb5 ((r318 * 3) + r325) r331 r460)) else (ob1 (f_L_below τ (((r318 * 3) + r325) >>> (2 &&& 31)) 12) (fun r340 => gd (vin r340 (pvLen τ 53 ub4)) (nm (pvArr τ 54 0 (fun _ => 0)) (fun σ346 => ob1 (f_L_below σ346 (((r318 * 3) + r325) >>> (5 &&& 31)) 2) (fun r355 => gd (vin (0) (pvLen σ346 54 (τ.1 5))) (nm (pvA σ346 54 (τ.1 5) ((0 : Int32).toNatClampNeg) (1 + r355)) (fun σ361 => ob1 (f_L_below σ361 (((r318 * 3) + r325) >>> (4 &&& 31)) 150) (fun r362 => gd (vin (1) (pvLen σ361 54 (τ.1 5))) (nm (pvA σ361 54 (τ.1 5) ((1 : Int32).toNatClampNeg) r362) (fun σ368 => ob1 (f_L_below σ368 (((r318 * 3) + r325) >>> (4 &&& 31)) 60) (fun r369 => gd (vin (2) (pvLen σ368 54 (τ.1 5))) (nm (pvA σ368 54 (τ.1 5) ((2 : Int32).toNatClampNeg) r369) (fun σ375 => ob1 (f_L_below σ375 (((r318 * 3) + r325) >>> (5 &&& 31)) 12) (fun r376 => gd (vin (3) (pvLen σ375 54 (τ.1 5))) (nm (pvA σ375 54 (τ.1 5) ((3 : Int32).toNatClampNeg) r376) (fun σ382 => ob1 (f_L_below σ382 (((r318 * 3) + r325) >>> (5 &&& 31)) 9) (fun r383 => gd (vin (4) (pvLen σ382 54 (τ.1 5))) (nm (pvA σ382 54 (τ.1 5) ((4 : Int32).toNatClampNeg) r383) (fun σ389 => ob1 (f_L_below σ389 (((r318 * 3) + r325) >>> (6 &&& 31)) 5) (fun r390 => gd (vin (5) (pvLen σ389 54 (τ.1 5))) (nm (pvA σ389 54 (τ.1 5) ((5 : Int32).toNatClampNeg) r390) (fun σ396 => ob1 (f_L_below σ396 (((r318 * 3) + r325) >>> (4 &&& 31)) 3) (fun r397 => gd (vin (6) (pvLen σ396 54 (τ.1 5))) (nm (pvA σ396 54 (τ.1 5) ((6 : Int32).toNatClampNeg) r397) (fun σ403 => ob1 (f_L_below σ403 (((r318 * 3) + r325) >>> (4 &&& 31)) 4) (fun r404 => gd (vin (7) (pvLen σ403 54 (τ.1 5))) (nm (pvA σ403 54 (τ.1 5) ((7 : Int32).toNatClampNeg) r404) (fun σ410 => gd (vin (8) (pvLen σ410 54 (τ.1 5))) (nm (pvA σ410 54 (τ.1 5) ((8 : Int32).toNatClampNeg) 0) (fun σ412 => ob1 (f_L_below σ412 (((r318 * 3) + r325) >>> (5 &&& 31)) 12) (fun r413 => gd (vin (9) (pvLen σ412 54 (τ.1 5))) (nm (pvA σ412 54 (τ.1 5) ((9 : Int32).toNatClampNeg) (1 + r413)) (fun σ419 => ob1 (f_L_below σ419 (((r318 * 3) + r325) >>> (4 &&& 31)) 3) (fun r420 => gd (vin (10) (pvLen σ419 54 (τ.1 5))) (nm (pvA σ419 54 (τ.1 5) ((10 : Int32).toNatClampNeg) r420) (fun σ426 => ob1 (f_L_below σ426 (((r318 * 3) + r325) >>> (5 &&& 31)) 2) (fun r427 => gd (vin (11) (pvLen σ426 54 (τ.1 5))) (nm (pvA σ426 54 (τ.1 5) ((11 : Int32).toNatClampNeg) r427) (fun σ433 => ob1 (f_L_below σ433 (((r318 * 3) + r325) >>> (4 &&& 31)) 61) (fun r434 => gd (vin (12) (pvLen σ433 54 (τ.1 5))) (nm (pvA σ433 54 (τ.1 5) ((12 : Int32).toNatClampNeg) (r434 - 30)) (fun σ440 => gd (vin (τ.2.2.2.1 53 ub4 r340.toNatClampNeg) (pvLen σ440 54 (τ.1 5))) (ob1 (f_L_below σ440 (((r318 * 3) + r325) >>> (6 &&& 31)) 2) (fun r442 => if r442 = 0 then (ob2 (f_X9_declare σ440 r331 (τ.2.2.2.1 53 ub4 r340.toNatClampNeg) (σ440.2.2.2.1 54 (τ.1 5) (τ.2.2.2.1 53 ub4 r340.toNatClampNeg).toNatClampNeg)) (fun r454 σ455 => f_law_98 xs nn n σ455 xb2 ub3 ub4 (xb5 + 1))) else (ob1 (f_L_below σ440 (((r318 * 3) + r325) >>> (7 &&& 31)) 4) (fun r448 => if r448 = 0 then (f_law_430 (f_law_98 xs nn n) xs nn σ440 xb2 ub3 ub4 xb5 ((r318 * 3) + r325) r331 1 (σ440.2.2.2.1 54 (τ.1 5) (τ.2.2.2.1 53 ub4 r340.toNatClampNeg).toNatClampNeg) (τ.2.2.2.1 53 ub4 r340.toNatClampNeg)) else (f_law_430 (f_law_98 xs nn n) xs nn σ440 xb2 ub3 ub4 xb5 ((r318 * 3) + r325) r331 0 (σ440.2.2.2.1 54 (τ.1 5) (τ.2.2.2.1 53 ub4 r340.toNatClampNeg).toNatClampNeg) (τ.2.2.2.1 53 ub4 r340.toNatClampNeg)))))))))))))))))))))))))))))))))))))))))))))))))))))))))) := rfl
def f_law (xs : Nat → Int32) (nn : Nat) (σ : PvS)  : Option (Int32 × PvS) :=
  gd (¬ (15 : Int32) < 0) (nm (f_cell xs nn (15 : Int32)) (fun r466 => ob1 (f_L_below σ r466 12) (fun r472 => ob2 (f_L_build xs nn σ (4 + r472)) (fun r477 σ478 => nm (pvArr σ478 53 0 (fun _ => 0)) (fun σ486 => gd (vin (0) (pvLen σ486 53 (σ478.1 4))) (nm (pvA σ486 53 (σ478.1 4) ((0 : Int32).toNatClampNeg) 0) (fun σ494 => gd (vin (1) (pvLen σ494 53 (σ478.1 4))) (nm (pvA σ494 53 (σ478.1 4) ((1 : Int32).toNatClampNeg) 1) (fun σ496 => gd (vin (2) (pvLen σ496 53 (σ478.1 4))) (nm (pvA σ496 53 (σ478.1 4) ((2 : Int32).toNatClampNeg) 2) (fun σ498 => gd (vin (3) (pvLen σ498 53 (σ478.1 4))) (nm (pvA σ498 53 (σ478.1 4) ((3 : Int32).toNatClampNeg) 3) (fun σ500 => gd (vin (4) (pvLen σ500 53 (σ478.1 4))) (nm (pvA σ500 53 (σ478.1 4) ((4 : Int32).toNatClampNeg) 4) (fun σ502 => gd (vin (5) (pvLen σ502 53 (σ478.1 4))) (nm (pvA σ502 53 (σ478.1 4) ((5 : Int32).toNatClampNeg) 5) (fun σ504 => gd (vin (6) (pvLen σ504 53 (σ478.1 4))) (nm (pvA σ504 53 (σ478.1 4) ((6 : Int32).toNatClampNeg) 6) (fun σ506 => gd (vin (7) (pvLen σ506 53 (σ478.1 4))) (nm (pvA σ506 53 (σ478.1 4) ((7 : Int32).toNatClampNeg) 7) (fun σ508 => gd (vin (8) (pvLen σ508 53 (σ478.1 4))) (nm (pvA σ508 53 (σ478.1 4) ((8 : Int32).toNatClampNeg) 9) (fun σ510 => gd (vin (9) (pvLen σ510 53 (σ478.1 4))) (nm (pvA σ510 53 (σ478.1 4) ((9 : Int32).toNatClampNeg) 10) (fun σ512 => gd (vin (10) (pvLen σ512 53 (σ478.1 4))) (nm (pvA σ512 53 (σ478.1 4) ((10 : Int32).toNatClampNeg) 11) (fun σ514 => gd (vin (11) (pvLen σ514 53 (σ478.1 4))) (nm (pvA σ514 53 (σ478.1 4) ((11 : Int32).toNatClampNeg) 12) (fun σ516 => f_law_98 xs nn 16 σ516 (4 + r472) r477 (σ478.1 4) 0)))))))))))))))))))))))))))))
set_option maxHeartbeats 8000000 in
set_option maxRecDepth 100000 in
theorem law_walk {p : Program} {l : Launch} {e : Env} {s : State} {m : MethodId} {args : Array Value} {below : List Frame} {meth : Method} {c : Code} {Q : State → Prop} {G0 : PvG} {tys : List (ClassId × FieldType)} {σ : PvS} (htys0 : tys = pvT G0) {xs : Nat → Int32} {nn : Nat} (hxs0 : xs = G0.2.2.2.1.2) (hnn0 : nn = G0.2.2.2.1.1 5) (hlt0 : G0.2.2.2.1.1 5 < 2 ^ 31) {σ1 : PvS} (hx : p.tables.exec = Jvm.exec) (hb : c.code = cL_law) (hml : c.maxLocals = 17) (hown : s.vm.findClass RL = some m.cls) (hts : ∀ w ∈ WA, w.before args s = true) (hA0 : pvA0 G0 s s.heap) (hK0 : va_K G0.2.1 pvC tys s) (hN : pvN2 s) (hend : ∀ (H : Heap) (locs : List Loc), va_S (pvB G0) s.heap H locs → ∀ (ls : Array Slot), W p l e room_1 s m args below meth c H locs 600086 7301442 Q (F0 m 855 ls [.int 1])) (h : f_law xs nn σ  = some (1, σ1)) (H : Heap) (locs : List Loc) (hw : pvW G0 σ H) (hS : va_S (pvB G0) s.heap H locs) (ls : Array Slot) (hl : lv_has ls 17 [(0, .ref (G0.2.2.2.1.1 4)), (1, .ref (G0.2.2.1 9 0))]) : W p l e room_1 s m args below meth c H locs 194 5959 Q (F0 m 8 ls []) := by
  unfold f_law at h
  have blk802 : ∀ (G : PvG) (τ : PvS) (xb12 : Int32), G = pvGa G0 G.2.2.1 → pvGr G0.2.2.1 G.2.2.1 σ τ → f_law_802 xs nn τ xb12 = some (1, σ1) → ∀ (H : Heap) (locs : List Loc), pvW G τ H → va_S (pvB G) s.heap H locs → ∀ (ls : Array Slot), lv_has ls 17 [(1, .ref (G.2.2.1 9 0)), (12, .int xb12)] → W p l e room_1 s m args below meth c H locs (1714) (130031) Q (F0 m 802 ls []) := by
    intro G τ xb12 hGe hgr h H locs hw hS ls hl
    have hA := pvGe_A hGe hA0
    have hK := pvGe_K hGe hK0
    have htys := pvGe_T hGe htys0
    have hroot := pv_root hw
    unfold f_law_802 at h
    refine lv_aload_n hx hb dL_law_802 rfl (lv_at hl 0 rfl) ?_
    obtain ⟨r1, e2, h⟩ := ob1_e h
    refine pcalli (va_runV (As := []) (rest := []) ⟨hx, hb, hml, hown, hts⟩ (c_X9_nodes (l := l) (G := G) (tys := tys) (σ := τ) htys  e2) (cwV 0 hts (gVA wm750 wm751 wm752 wm2 wm753) rfl rfl rfl (by decide +kernel) ⟨(Nat.le_of_ble_eq_true rfl), (Nat.le_of_ble_eq_true rfl)⟩) (pv_preV hA hS hw hK 9 0 Nat.one_pos (by decide) rfl []) rfl rfl hl.1 rfl (lv_room (Nat.le_of_ble_eq_true rfl)) dL_law_803 ⟨(by show 1714 + 0 ≤ 600086; omega), (by show 130031 + 0 ≤ 7301442; omega)⟩) hS (fun r4 s5 H locs hp3 hw hS => ?_)
    obtain ⟨err1, esr1⟩ := hp3
    obtain rfl := esr1.symm
    obtain rfl := err1.symm
    refine W.widen (k := 1714) (n := 130031) (by omega) (by omega) ?_
    refine lv_istore (lv' := [(15, .int r1), (1, .ref (G.2.2.1 9 0)), (12, .int xb12)]) hx hb dL_law_806 hl (by decide) rfl (fun ls hl => ?_)
    refine lv_aload_n hx hb dL_law_808 rfl (lv_at hl 1 rfl) ?_
    refine lv_iload hx hb dL_law_809 (lv_at hl 2 rfl) ?_
    obtain ⟨r6, σ7, e8, h⟩ := ob2_e h
    refine pcalli (va_runV (As := [.int xb12]) (rest := []) ⟨hx, hb, hml, hown, hts⟩ (c_X9_takeAway (l := l) (G := G) (tys := tys) (σ := τ) htys  e8) (cwV 1 hts (gVA wm900 wm901 wm902 wm2 wm903) rfl rfl rfl (by decide +kernel) ⟨(Nat.le_of_ble_eq_true rfl), (Nat.le_of_ble_eq_true rfl)⟩) (pv_preV hA hS hw hK 9 0 Nat.one_pos (by decide) rfl [.int xb12]) rfl rfl hl.1 rfl (lv_room (Nat.le_of_ble_eq_true rfl)) dL_law_811 ⟨(by show 1714 + 64 ≤ 600086; omega), (by show 130031 + 6144 ≤ 7301442; omega)⟩) hS (fun r10 s11 H locs hp9 hw hS => ?_)
    obtain ⟨err6, esσ7, hdσ7⟩ := hp9
    obtain rfl := esσ7.symm
    have hcσ7 : σ7.1 = τ.1 := hdσ7
    obtain rfl := err6.symm
    refine W.widen (k := 1778) (n := 136175) (by omega) (by omega) ?_
    refine lv_istore (lv' := [(16, .int r6), (15, .int r1), (1, .ref (G.2.2.1 9 0)), (12, .int xb12)]) hx hb dL_law_814 hl (by decide) rfl (fun ls hl => ?_)
    refine lv_iload hx hb dL_law_816 (lv_at hl 0 rfl) ?_
    refine lv_iconst (v := 1) hx hb dL_law_818 (by decide) ?_
    refine lv_icmp_lt (tgt := 854) hx hb dL_law_819 (by decide) (fun c12 => ?_) (fun c12 => ?_)
    · skip
      replace h := ite_p c12 h
      refine lv_iconst (v := 0) hx hb dL_law_854 (by decide) ?_
      exact absurd (show (0 : Int32) = 1 from congrArg Prod.fst (Option.some.inj h)) (by decide)
    · skip
      replace h := ite_n c12 h
      refine lv_aload_n hx hb dL_law_822 rfl (lv_at hl 2 rfl) ?_
      obtain ⟨r13, e14, h⟩ := ob1_e h
      refine pcalli (va_runV (As := []) (rest := []) ⟨hx, hb, hml, hown, hts⟩ (c_X9_nodes (l := l) (G := G) (tys := tys) (σ := σ7) htys  e14) (cwV 0 hts (gVA wm750 wm751 wm752 wm2 wm753) rfl rfl rfl (by decide +kernel) ⟨(Nat.le_of_ble_eq_true rfl), (Nat.le_of_ble_eq_true rfl)⟩) (pv_preV hA hS hw hK 9 0 Nat.one_pos (by decide) rfl []) rfl rfl hl.1 rfl (lv_room (Nat.le_of_ble_eq_true rfl)) dL_law_823 ⟨(by show 1778 + 0 ≤ 600086; omega), (by show 136175 + 0 ≤ 7301442; omega)⟩) hS (fun r16 s17 H locs hp15 hw hS => ?_)
      obtain ⟨err13, esr13⟩ := hp15
      obtain rfl := esr13.symm
      obtain rfl := err13.symm
      refine W.widen (k := 1778) (n := 136175) (by omega) (by omega) ?_
      refine lv_iload hx hb dL_law_826 (lv_at hl 1 rfl) ?_
      refine lv_iload hx hb dL_law_828 (lv_at hl 0 rfl) ?_
      refine lv_isub hx hb dL_law_830 ?_
      refine lv_icmp_ne (tgt := 854) hx hb dL_law_831 (by decide) (fun c18 => ?_) (fun c18 => ?_)
      · skip
        replace h := ite_n c18 h
        refine lv_iconst (v := 0) hx hb dL_law_854 (by decide) ?_
        exact absurd (show (0 : Int32) = 1 from congrArg Prod.fst (Option.some.inj h)) (by decide)
      · skip
        replace h := ite_p c18 h
        refine lv_aload_n hx hb dL_law_834 rfl (lv_at hl 2 rfl) ?_
        refine lv_iload hx hb dL_law_835 (lv_at hl 3 rfl) ?_
        obtain ⟨r19, e20, h⟩ := ob1_e h
        refine pcalli (va_runV (As := [.int xb12]) (rest := []) ⟨hx, hb, hml, hown, hts⟩ (c_X9_isThere (l := l) (G := G) (tys := tys) (σ := σ7) htys  e20) (cwV 1 hts (gVA wm402 wm403 wm404 wm2 wm405) rfl rfl rfl (by decide +kernel) ⟨(Nat.le_of_ble_eq_true rfl), (Nat.le_of_ble_eq_true rfl)⟩) (pv_preV hA hS hw hK 9 0 Nat.one_pos (by decide) rfl [.int xb12]) rfl rfl hl.1 rfl (lv_room (Nat.le_of_ble_eq_true rfl)) dL_law_837 ⟨(by show 1778 + 0 ≤ 600086; omega), (by show 136175 + 0 ≤ 7301442; omega)⟩) hS (fun r22 s23 H locs hp21 hw hS => ?_)
        obtain ⟨err19, esr19, hzr19⟩ := hp21
        obtain rfl := esr19.symm
        obtain rfl := err19.symm
        refine W.widen (k := 1778) (n := 136175) (by omega) (by omega) ?_
        refine lv_if_ne (tgt := 854) hx hb dL_law_840 (by decide) (fun c24 => ?_) (fun c24 => ?_)
        · skip
          replace h := ite_n c24 h
          refine lv_iconst (v := 0) hx hb dL_law_854 (by decide) ?_
          exact absurd (show (0 : Int32) = 1 from congrArg Prod.fst (Option.some.inj h)) (by decide)
        · skip
          replace h := ite_p c24 h
          refine lv_aload_n hx hb dL_law_843 rfl (lv_at hl 2 rfl) ?_
          obtain ⟨r25, σ26, e27, h⟩ := ob2_e h
          refine pcalli (va_runS (As := [.ref (G.2.2.1 9 0)]) (rest := []) ⟨hx, hb, hml, hown, hts⟩ (c_L_isSound (l := l) (G := G) (tys := tys) (σ := σ7) htys  e27) (va_cwS 1 hts (gSA wm395 wm396 wm216 wm397) rfl rfl rfl (by decide +kernel) ⟨(Nat.le_of_ble_eq_true rfl), (Nat.le_of_ble_eq_true rfl)⟩) (pv_preS hA hS hw hK [.ref (G.2.2.1 9 0)]) rfl rfl hl.1 rfl (lv_room (Nat.le_of_ble_eq_true rfl)) dL_law_844 ⟨(by show 1778 + 0 ≤ 600086; omega), (by show 136175 + 0 ≤ 7301442; omega)⟩) hS (fun r29 s30 H locs hp28 hw hS => ?_)
          obtain ⟨err25, esσ26, hdσ26, hzr25⟩ := hp28
          obtain rfl := esσ26.symm
          have hcσ26 : σ26.1 = τ.1 := hdσ26.trans hcσ7
          obtain rfl := err25.symm
          refine W.widen (k := 1778) (n := 136175) (by omega) (by omega) ?_
          refine lv_if_eq (tgt := 854) hx hb dL_law_847 (by decide) (fun c31 => ?_) (fun c31 => ?_)
          · skip
            replace h := ite_p c31 h
            refine lv_iconst (v := 0) hx hb dL_law_854 (by decide) ?_
            exact absurd (show (0 : Int32) = 1 from congrArg Prod.fst (Option.some.inj h)) (by decide)
          · skip
            replace h := ite_n c31 h
            refine lv_iconst (v := 1) hx hb dL_law_850 (by decide) ?_
            refine lv_goto (tgt := 855) hx hb dL_law_851 (by decide) ?_
            refine W.widen (k := 600086) (n := 7301442) (by omega) (by omega) ?_
            exact hend H locs (pvGe_S' hGe hS) ls
  have blk743 : ∀ (G : PvG) (τ : PvS) (xb5 : Int64) (xb12 : Int32), G = pvGa G0 G.2.2.1 → pvGr G0.2.2.1 G.2.2.1 σ τ → f_law_743 xs nn τ xb5 xb12 = some (1, σ1) → ∀ (H : Heap) (locs : List Loc), pvW G τ H → va_S (pvB G) s.heap H locs → ∀ (ls : Array Slot), lv_has ls 17 [(0, .ref (G.2.2.2.1.1 4)), (1, .ref (G.2.2.1 9 0)), (5, .long xb5), (12, .int xb12)] → W p l e room_1 s m args below meth c H locs (1714) (130031) Q (F0 m 743 ls []) := by
    intro G τ xb5 xb12 hGe hgr h H locs hw hS ls hl
    have hA := pvGe_A hGe hA0
    have hK := pvGe_K hGe hK0
    have htys := pvGe_T hGe htys0
    have hroot := pv_root hw
    unfold f_law_743 at h
    refine lv_aload_n hx hb dL_law_743 rfl (lv_at hl 1 rfl) ?_
    obtain ⟨r32, e33, h⟩ := ob1_e h
    refine pcalli (va_runV (As := []) (rest := []) ⟨hx, hb, hml, hown, hts⟩ (c_X9_rules (l := l) (G := G) (tys := tys) (σ := τ) htys  e33) (cwV 0 hts (gVA wm741 wm742 wm743 wm2 wm744) rfl rfl rfl (by decide +kernel) ⟨(Nat.le_of_ble_eq_true rfl), (Nat.le_of_ble_eq_true rfl)⟩) (pv_preV hA hS hw hK 9 0 Nat.one_pos (by decide) rfl []) rfl rfl hl.1 rfl (lv_room (Nat.le_of_ble_eq_true rfl)) dL_law_744 ⟨(by show 1714 + 0 ≤ 600086; omega), (by show 130031 + 0 ≤ 7301442; omega)⟩) hS (fun r35 s36 H locs hp34 hw hS => ?_)
    obtain ⟨err32, esr32⟩ := hp34
    obtain rfl := esr32.symm
    obtain rfl := err32.symm
    refine W.widen (k := 1714) (n := 130031) (by omega) (by omega) ?_
    refine lv_if_le (tgt := 802) hx hb dL_law_747 (by decide) (fun c37 => ?_) (fun c37 => ?_)
    · skip
      replace h := ite_p c37 h
      refine W.widen (k := 1714) (n := 130031) (by omega) (by omega) ?_
      exact blk802 G τ xb12 hGe hgr  h _ _ hw hS ls (lv_sub hl [1, 3] rfl)
    · skip
      replace h := ite_n c37 h
      refine lv_aload_n hx hb dL_law_750 rfl (lv_at hl 0 rfl) ?_
      refine lv_bipush (v := 6) hx hb dL_law_751 (by decide) ?_
      obtain ⟨g38, h⟩ := gd_e h
      obtain ⟨r39, e42, h⟩ := nq_e h
      refine pcalli (va_runS (As := [.ref (G.2.2.2.1.1 4), .int 6]) (rest := []) ⟨hx, hb, hml, hown, hts⟩ (c_L_cell (l := l) (G := G) (tys := tys) htys (σ := τ) (k := (6 : Int32)) g38 (by rw [pvGe_sc hGe]; exact hlt0)) (va_cwS 2 hts (gSA wm214 wm215 wm216 wm217) rfl rfl rfl (by decide +kernel) ⟨(Nat.le_of_ble_eq_true rfl), (Nat.le_of_ble_eq_true rfl)⟩) (pv_preS hA hS hw hK [.ref (G.2.2.2.1.1 4), .int 6]) rfl rfl hl.1 rfl (lv_room (Nat.le_of_ble_eq_true rfl)) dL_law_753 ⟨(by show 1714 + 0 ≤ 600086; omega), (by show 130031 + 0 ≤ 7301442; omega)⟩) hS (fun r40 s41 H locs hp hw hS => ?_)
      obtain ⟨e43, e44⟩ := hp
      obtain rfl := e44.symm
      rw [pvGe_sc hGe, ← hxs0, ← hnn0] at e43
      obtain rfl : r39 = r40 := e42.trans e43.symm
      refine W.widen (k := 1714) (n := 130031) (by omega) (by omega) ?_
      refine lv_aload_n hx hb dL_law_756 rfl (lv_at hl 1 rfl) ?_
      obtain ⟨r45, e46, h⟩ := ob1_e h
      refine pcalli (va_runV (As := []) (rest := [.int r39]) ⟨hx, hb, hml, hown, hts⟩ (c_X9_rules (l := l) (G := G) (tys := tys) (σ := τ) htys  e46) (cwV 0 hts (gVA wm741 wm742 wm743 wm2 wm744) rfl rfl rfl (by decide +kernel) ⟨(Nat.le_of_ble_eq_true rfl), (Nat.le_of_ble_eq_true rfl)⟩) (pv_preV hA hS hw hK 9 0 Nat.one_pos (by decide) rfl []) rfl rfl hl.1 rfl (lv_room (Nat.le_of_ble_eq_true rfl)) dL_law_757 ⟨(by show 1714 + 0 ≤ 600086; omega), (by show 130031 + 0 ≤ 7301442; omega)⟩) hS (fun r48 s49 H locs hp47 hw hS => ?_)
      obtain ⟨err45, esr45⟩ := hp47
      obtain rfl := esr45.symm
      obtain rfl := err45.symm
      refine W.widen (k := 1714) (n := 130031) (by omega) (by omega) ?_
      obtain ⟨r50, e51, h⟩ := ob1_e h
      refine pcalli (va_runS (As := [.int r39, .int r45]) (rest := []) ⟨hx, hb, hml, hown, hts⟩ (c_L_below (l := l) (G := G) (tys := tys) (σ := τ) htys  e51) (va_cwS 2 hts (gSA wm219 wm220 wm216 wm221) rfl rfl rfl (by decide +kernel) ⟨(Nat.le_of_ble_eq_true rfl), (Nat.le_of_ble_eq_true rfl)⟩) (pv_preS hA hS hw hK [.int r39, .int r45]) rfl rfl hl.1 rfl (lv_room (Nat.le_of_ble_eq_true rfl)) dL_law_760 ⟨(by show 1714 + 0 ≤ 600086; omega), (by show 130031 + 0 ≤ 7301442; omega)⟩) hS (fun r53 s54 H locs hp52 hw hS => ?_)
      obtain ⟨err50, esr50⟩ := hp52
      obtain rfl := esr50.symm
      obtain rfl := err50.symm
      refine W.widen (k := 1714) (n := 130031) (by omega) (by omega) ?_
      refine lv_istore (lv' := [(15, .int r50), (0, .ref (G.2.2.2.1.1 4)), (1, .ref (G.2.2.1 9 0)), (5, .long xb5), (12, .int xb12)]) hx hb dL_law_763 hl (by decide) rfl (fun ls hl => ?_)
      refine lv_aload_n hx hb dL_law_765 rfl (lv_at hl 2 rfl) ?_
      refine lv_iload hx hb dL_law_766 (lv_at hl 0 rfl) ?_
      obtain ⟨r55, σ56, e57, h⟩ := ob2_e h
      refine pcalli (va_runV (As := [.int r50]) (rest := []) ⟨hx, hb, hml, hown, hts⟩ (c_X9_turn (l := l) (G := G) (tys := tys) (σ := τ) htys  e57) (cwV 1 hts (gVA wm895 wm896 wm897 wm2 wm898) rfl rfl rfl (by decide +kernel) ⟨(Nat.le_of_ble_eq_true rfl), (Nat.le_of_ble_eq_true rfl)⟩) (pv_preV hA hS hw hK 9 0 Nat.one_pos (by decide) rfl [.int r50]) rfl rfl hl.1 rfl (lv_room (Nat.le_of_ble_eq_true rfl)) dL_law_768 ⟨(by show 1714 + 0 ≤ 600086; omega), (by show 130031 + 0 ≤ 7301442; omega)⟩) hS (fun r59 s60 H locs hp58 hw hS => ?_)
      obtain ⟨err55, esσ56, hdσ56, hzr55⟩ := hp58
      obtain rfl := esσ56.symm
      have hcσ56 : σ56.1 = τ.1 := hdσ56
      obtain rfl := err55.symm
      refine W.widen (k := 1714) (n := 130031) (by omega) (by omega) ?_
      refine lv_if_ne (tgt := 800) hx hb dL_law_771 (by decide) (fun c61 => ?_) (fun c61 => ?_)
      · skip
        replace h := ite_n c61 h
        refine lv_iconst (v := 0) hx hb dL_law_800 (by decide) ?_
        exact absurd (show (0 : Int32) = 1 from congrArg Prod.fst (Option.some.inj h)) (by decide)
      · skip
        replace h := ite_p c61 h
        refine lv_aload_n hx hb dL_law_774 rfl (lv_at hl 2 rfl) ?_
        obtain ⟨r62, σ63, e64, h⟩ := ob2_e h
        refine pcalli (va_runS (As := [.ref (G.2.2.1 9 0)]) (rest := []) ⟨hx, hb, hml, hown, hts⟩ (c_L_isSound (l := l) (G := G) (tys := tys) (σ := σ56) htys  e64) (va_cwS 1 hts (gSA wm395 wm396 wm216 wm397) rfl rfl rfl (by decide +kernel) ⟨(Nat.le_of_ble_eq_true rfl), (Nat.le_of_ble_eq_true rfl)⟩) (pv_preS hA hS hw hK [.ref (G.2.2.1 9 0)]) rfl rfl hl.1 rfl (lv_room (Nat.le_of_ble_eq_true rfl)) dL_law_775 ⟨(by show 1714 + 0 ≤ 600086; omega), (by show 130031 + 0 ≤ 7301442; omega)⟩) hS (fun r66 s67 H locs hp65 hw hS => ?_)
        obtain ⟨err62, esσ63, hdσ63, hzr62⟩ := hp65
        obtain rfl := esσ63.symm
        have hcσ63 : σ63.1 = τ.1 := hdσ63.trans hcσ56
        obtain rfl := err62.symm
        refine W.widen (k := 1714) (n := 130031) (by omega) (by omega) ?_
        refine lv_if_eq (tgt := 800) hx hb dL_law_778 (by decide) (fun c68 => ?_) (fun c68 => ?_)
        · skip
          replace h := ite_p c68 h
          refine lv_iconst (v := 0) hx hb dL_law_800 (by decide) ?_
          exact absurd (show (0 : Int32) = 1 from congrArg Prod.fst (Option.some.inj h)) (by decide)
        · skip
          replace h := ite_n c68 h
          refine lv_aload_n hx hb dL_law_781 rfl (lv_at hl 2 rfl) ?_
          refine lv_iload hx hb dL_law_782 (lv_at hl 0 rfl) ?_
          obtain ⟨r69, σ70, e71, h⟩ := ob2_e h
          refine pcalli (va_runV (As := [.int r50]) (rest := []) ⟨hx, hb, hml, hown, hts⟩ (c_X9_turn (l := l) (G := G) (tys := tys) (σ := σ63) htys  e71) (cwV 1 hts (gVA wm895 wm896 wm897 wm2 wm898) rfl rfl rfl (by decide +kernel) ⟨(Nat.le_of_ble_eq_true rfl), (Nat.le_of_ble_eq_true rfl)⟩) (pv_preV hA hS hw hK 9 0 Nat.one_pos (by decide) rfl [.int r50]) rfl rfl hl.1 rfl (lv_room (Nat.le_of_ble_eq_true rfl)) dL_law_784 ⟨(by show 1714 + 0 ≤ 600086; omega), (by show 130031 + 0 ≤ 7301442; omega)⟩) hS (fun r73 s74 H locs hp72 hw hS => ?_)
          obtain ⟨err69, esσ70, hdσ70, hzr69⟩ := hp72
          obtain rfl := esσ70.symm
          have hcσ70 : σ70.1 = τ.1 := hdσ70.trans hcσ63
          obtain rfl := err69.symm
          refine W.widen (k := 1714) (n := 130031) (by omega) (by omega) ?_
          refine lv_if_eq (tgt := 800) hx hb dL_law_787 (by decide) (fun c75 => ?_) (fun c75 => ?_)
          · skip
            replace h := ite_p c75 h
            refine lv_iconst (v := 0) hx hb dL_law_800 (by decide) ?_
            exact absurd (show (0 : Int32) = 1 from congrArg Prod.fst (Option.some.inj h)) (by decide)
          · skip
            replace h := ite_n c75 h
            refine lv_aload_n hx hb dL_law_790 rfl (lv_at hl 2 rfl) ?_
            obtain ⟨r76, σ77, e78, h⟩ := ob2_e h
            refine pcalll (va_runV (As := []) (rest := []) ⟨hx, hb, hml, hown, hts⟩ (c_X9_digest (l := l) (G := G) (tys := tys) (σ := σ70) htys  e78) (cwV 0 hts (gVA wm768 wm769 wm770 wm2 wm771) rfl rfl rfl (by decide +kernel) ⟨(Nat.le_of_ble_eq_true rfl), (Nat.le_of_ble_eq_true rfl)⟩) (pv_preV hA hS hw hK 9 0 Nat.one_pos (by decide) rfl []) rfl rfl hl.1 rfl (lv_room (Nat.le_of_ble_eq_true rfl)) dL_law_791 ⟨(by show 1714 + 0 ≤ 600086; omega), (by show 130031 + 0 ≤ 7301442; omega)⟩) hS (fun r80 s81 H locs hp79 hw hS => ?_)
            obtain ⟨err76, esσ77, hdσ77⟩ := hp79
            obtain rfl := esσ77.symm
            have hcσ77 : σ77.1 = τ.1 := hdσ77.trans hcσ70
            obtain rfl := err76.symm
            refine W.widen (k := 1714) (n := 130031) (by omega) (by omega) ?_
            refine lv_lload hx hb dL_law_794 (lv_at hl 3 rfl) ?_
            refine W.lcmp hx hb dL_law_796 ?_
            refine lv_if_eq (tgt := 802) hx hb dL_law_797 (by decide) (fun c82 => ?_) (fun c82 => ?_)
            · skip
              replace h := ite_p c82 h
              refine W.widen (k := 1714) (n := 130031) (by omega) (by omega) ?_
              exact blk802 G σ77 xb12 hGe (pvGr_r hcσ77 hgr)  h _ _ hw hS ls (lv_sub hl [2, 4] rfl)
            · skip
              replace h := ite_n c82 h
              refine lv_iconst (v := 0) hx hb dL_law_800 (by decide) ?_
              exact absurd (show (0 : Int32) = 1 from congrArg Prod.fst (Option.some.inj h)) (by decide)
  have blk693 : ∀ (G : PvG) (τ : PvS) (xb5 : Int64) (xb12 : Int32) (xb13 : Int32) (xb14 : Int32), G = pvGa G0 G.2.2.1 → pvGr G0.2.2.1 G.2.2.1 σ τ → f_law_693 xs nn τ xb5 xb12 xb13 xb14 = some (1, σ1) → ∀ (H : Heap) (locs : List Loc), pvW G τ H → va_S (pvB G) s.heap H locs → ∀ (ls : Array Slot), lv_has ls 17 [(0, .ref (G.2.2.2.1.1 4)), (1, .ref (G.2.2.1 9 0)), (5, .long xb5), (12, .int xb12), (13, .int xb13), (14, .int xb14)] → W p l e room_1 s m args below meth c H locs (1584) (117551) Q (F0 m 693 ls []) := by
    intro G τ xb5 xb12 xb13 xb14 hGe hgr h H locs hw hS ls hl
    have hA := pvGe_A hGe hA0
    have hK := pvGe_K hGe hK0
    have htys := pvGe_T hGe htys0
    have hroot := pv_root hw
    unfold f_law_693 at h
    refine lv_aload_n hx hb dL_law_693 rfl (lv_at hl 1 rfl) ?_
    refine lv_iload hx hb dL_law_694 (lv_at hl 3 rfl) ?_
    refine lv_iconst (v := 0) hx hb dL_law_696 (by decide) ?_
    refine lv_iconst (v := 0) hx hb dL_law_697 (by decide) ?_
    obtain ⟨r83, σ84, e85, h⟩ := ob2_e h
    refine pcalli (va_runV (As := [.int xb12, .int 0, .int 0]) (rest := []) ⟨hx, hb, hml, hown, hts⟩ (c_X9_move (l := l) (G := G) (tys := tys) (σ := τ) htys  e85) (cwV 3 hts (gVA wm847 wm848 wm849 wm2 wm850) rfl rfl rfl (by decide +kernel) ⟨(Nat.le_of_ble_eq_true rfl), (Nat.le_of_ble_eq_true rfl)⟩) (pv_preV hA hS hw hK 9 0 Nat.one_pos (by decide) rfl [.int xb12, .int 0, .int 0]) rfl rfl hl.1 rfl (lv_room (Nat.le_of_ble_eq_true rfl)) dL_law_698 ⟨(by show 1584 + 65 ≤ 600086; omega), (by show 117551 + 6240 ≤ 7301442; omega)⟩) hS (fun r87 s88 H locs hp86 hw hS => ?_)
    obtain ⟨err83, esσ84, hdσ84⟩ := hp86
    obtain rfl := esσ84.symm
    have hcσ84 : σ84.1 = τ.1 := hdσ84
    obtain rfl := err83.symm
    refine W.widen (k := 1649) (n := 123791) (by omega) (by omega) ?_
    refine lv_iconst (v := 1) hx hb dL_law_701 (by decide) ?_
    refine lv_icmp_lt (tgt := 741) hx hb dL_law_702 (by decide) (fun c89 => ?_) (fun c89 => ?_)
    · skip
      replace h := ite_p c89 h
      refine lv_iconst (v := 0) hx hb dL_law_741 (by decide) ?_
      exact absurd (show (0 : Int32) = 1 from congrArg Prod.fst (Option.some.inj h)) (by decide)
    · skip
      replace h := ite_n c89 h
      refine lv_aload_n hx hb dL_law_705 rfl (lv_at hl 1 rfl) ?_
      obtain ⟨r90, σ91, e92, h⟩ := ob2_e h
      refine pcalli (va_runS (As := [.ref (G.2.2.1 9 0)]) (rest := []) ⟨hx, hb, hml, hown, hts⟩ (c_L_isSound (l := l) (G := G) (tys := tys) (σ := σ84) htys  e92) (va_cwS 1 hts (gSA wm395 wm396 wm216 wm397) rfl rfl rfl (by decide +kernel) ⟨(Nat.le_of_ble_eq_true rfl), (Nat.le_of_ble_eq_true rfl)⟩) (pv_preS hA hS hw hK [.ref (G.2.2.1 9 0)]) rfl rfl hl.1 rfl (lv_room (Nat.le_of_ble_eq_true rfl)) dL_law_706 ⟨(by show 1649 + 0 ≤ 600086; omega), (by show 123791 + 0 ≤ 7301442; omega)⟩) hS (fun r94 s95 H locs hp93 hw hS => ?_)
      obtain ⟨err90, esσ91, hdσ91, hzr90⟩ := hp93
      obtain rfl := esσ91.symm
      have hcσ91 : σ91.1 = τ.1 := hdσ91.trans hcσ84
      obtain rfl := err90.symm
      refine W.widen (k := 1649) (n := 123791) (by omega) (by omega) ?_
      refine lv_if_eq (tgt := 741) hx hb dL_law_709 (by decide) (fun c96 => ?_) (fun c96 => ?_)
      · skip
        replace h := ite_p c96 h
        refine lv_iconst (v := 0) hx hb dL_law_741 (by decide) ?_
        exact absurd (show (0 : Int32) = 1 from congrArg Prod.fst (Option.some.inj h)) (by decide)
      · skip
        replace h := ite_n c96 h
        refine lv_aload_n hx hb dL_law_712 rfl (lv_at hl 1 rfl) ?_
        refine lv_iload hx hb dL_law_713 (lv_at hl 3 rfl) ?_
        refine lv_iload hx hb dL_law_715 (lv_at hl 4 rfl) ?_
        refine lv_iload hx hb dL_law_717 (lv_at hl 5 rfl) ?_
        obtain ⟨r97, σ98, e99, h⟩ := ob2_e h
        refine pcalli (va_runV (As := [.int xb12, .int xb13, .int xb14]) (rest := []) ⟨hx, hb, hml, hown, hts⟩ (c_X9_move (l := l) (G := G) (tys := tys) (σ := σ91) htys  e99) (cwV 3 hts (gVA wm847 wm848 wm849 wm2 wm850) rfl rfl rfl (by decide +kernel) ⟨(Nat.le_of_ble_eq_true rfl), (Nat.le_of_ble_eq_true rfl)⟩) (pv_preV hA hS hw hK 9 0 Nat.one_pos (by decide) rfl [.int xb12, .int xb13, .int xb14]) rfl rfl hl.1 rfl (lv_room (Nat.le_of_ble_eq_true rfl)) dL_law_719 ⟨(by show 1649 + 65 ≤ 600086; omega), (by show 123791 + 6240 ≤ 7301442; omega)⟩) hS (fun r101 s102 H locs hp100 hw hS => ?_)
        obtain ⟨err97, esσ98, hdσ98⟩ := hp100
        obtain rfl := esσ98.symm
        have hcσ98 : σ98.1 = τ.1 := hdσ98.trans hcσ91
        obtain rfl := err97.symm
        refine W.widen (k := 1714) (n := 130031) (by omega) (by omega) ?_
        refine lv_aload_n hx hb dL_law_722 rfl (lv_at hl 1 rfl) ?_
        refine lv_iload hx hb dL_law_723 (lv_at hl 4 rfl) ?_
        obtain ⟨r103, e104, h⟩ := ob1_e h
        refine pcalli (va_runV (As := [.int xb13]) (rest := [.int r97]) ⟨hx, hb, hml, hown, hts⟩ (c_X9_size (l := l) (G := G) (tys := tys) (σ := σ98) htys  e104) (cwV 1 hts (gVA wm321 wm322 wm323 wm2 wm324) rfl rfl rfl (by decide +kernel) ⟨(Nat.le_of_ble_eq_true rfl), (Nat.le_of_ble_eq_true rfl)⟩) (pv_preV hA hS hw hK 9 0 Nat.one_pos (by decide) rfl [.int xb13]) rfl rfl hl.1 rfl (lv_room (Nat.le_of_ble_eq_true rfl)) dL_law_725 ⟨(by show 1714 + 0 ≤ 600086; omega), (by show 130031 + 0 ≤ 7301442; omega)⟩) hS (fun r106 s107 H locs hp105 hw hS => ?_)
        obtain ⟨err103, esr103⟩ := hp105
        obtain rfl := esr103.symm
        obtain rfl := err103.symm
        refine W.widen (k := 1714) (n := 130031) (by omega) (by omega) ?_
        refine lv_icmp_ne (tgt := 741) hx hb dL_law_728 (by decide) (fun c108 => ?_) (fun c108 => ?_)
        · skip
          replace h := ite_n c108 h
          refine lv_iconst (v := 0) hx hb dL_law_741 (by decide) ?_
          exact absurd (show (0 : Int32) = 1 from congrArg Prod.fst (Option.some.inj h)) (by decide)
        · skip
          replace h := ite_p c108 h
          refine lv_aload_n hx hb dL_law_731 rfl (lv_at hl 1 rfl) ?_
          obtain ⟨r109, σ110, e111, h⟩ := ob2_e h
          refine pcalll (va_runV (As := []) (rest := []) ⟨hx, hb, hml, hown, hts⟩ (c_X9_digest (l := l) (G := G) (tys := tys) (σ := σ98) htys  e111) (cwV 0 hts (gVA wm768 wm769 wm770 wm2 wm771) rfl rfl rfl (by decide +kernel) ⟨(Nat.le_of_ble_eq_true rfl), (Nat.le_of_ble_eq_true rfl)⟩) (pv_preV hA hS hw hK 9 0 Nat.one_pos (by decide) rfl []) rfl rfl hl.1 rfl (lv_room (Nat.le_of_ble_eq_true rfl)) dL_law_732 ⟨(by show 1714 + 0 ≤ 600086; omega), (by show 130031 + 0 ≤ 7301442; omega)⟩) hS (fun r113 s114 H locs hp112 hw hS => ?_)
          obtain ⟨err109, esσ110, hdσ110⟩ := hp112
          obtain rfl := esσ110.symm
          have hcσ110 : σ110.1 = τ.1 := hdσ110.trans hcσ98
          obtain rfl := err109.symm
          refine W.widen (k := 1714) (n := 130031) (by omega) (by omega) ?_
          refine lv_lload hx hb dL_law_735 (lv_at hl 2 rfl) ?_
          refine W.lcmp hx hb dL_law_737 ?_
          refine lv_if_eq (tgt := 743) hx hb dL_law_738 (by decide) (fun c115 => ?_) (fun c115 => ?_)
          · skip
            replace h := ite_p c115 h
            refine W.widen (k := 1714) (n := 130031) (by omega) (by omega) ?_
            exact blk743 G σ110 xb5 xb12 hGe (pvGr_r hcσ110 hgr)  h _ _ hw hS ls (lv_sub hl [0, 1, 2, 3] rfl)
          · skip
            replace h := ite_n c115 h
            refine lv_iconst (v := 0) hx hb dL_law_741 (by decide) ?_
            exact absurd (show (0 : Int32) = 1 from congrArg Prod.fst (Option.some.inj h)) (by decide)
  have loop674 : ∀ (n : Nat), ∀ (G : PvG) (τ : PvS) (xb5 : Int64) (xb12 : Int32) (xb13 : Int32) (xb14 : Int32), G = pvGa G0 G.2.2.1 → pvGr G0.2.2.1 G.2.2.1 σ τ → f_law_674 xs nn n τ xb5 xb12 xb13 xb14 = some (1, σ1) → ∀ (H : Heap) (locs : List Loc), pvW G τ H → va_S (pvB G) s.heap H locs → ∀ (ls : Array Slot), lv_has ls 17 [(0, .ref (G.2.2.2.1.1 4)), (1, .ref (G.2.2.1 9 0)), (5, .long xb5), (12, .int xb12), (13, .int xb13), (14, .int xb14)] → W p l e room_1 s m args below meth c H locs (1584) (117551) Q (F0 m 674 ls []) := by
    intro n674
    induction n674 with
    | zero =>
      intro G τ xb5 xb12 xb13 xb14 hGe hgr h
      rw [f_law_674_z] at h
      cases h
    | succ n674 ih674 =>
      intro G τ xb5 xb12 xb13 xb14 hGe hgr h H locs hw hS ls hl
      have hA := pvGe_A hGe hA0
      have hK := pvGe_K hGe hK0
      have htys := pvGe_T hGe htys0
      have hroot := pv_root hw
      rw [f_law_674_s] at h
      refine lv_aload_n hx hb dL_law_674 rfl (lv_at hl 1 rfl) ?_
      refine lv_iload hx hb dL_law_675 (lv_at hl 4 rfl) ?_
      refine lv_iload hx hb dL_law_677 (lv_at hl 5 rfl) ?_
      obtain ⟨r116, e117, h⟩ := ob1_e h
      refine pcalli (va_runV (As := [.int xb13, .int xb14]) (rest := []) ⟨hx, hb, hml, hown, hts⟩ (c_X9_childAt (l := l) (G := G) (tys := tys) (σ := τ) htys  e117) (cwV 2 hts (gVA wm724 wm725 wm726 wm2 wm727) rfl rfl rfl (by decide +kernel) ⟨(Nat.le_of_ble_eq_true rfl), (Nat.le_of_ble_eq_true rfl)⟩) (pv_preV hA hS hw hK 9 0 Nat.one_pos (by decide) rfl [.int xb13, .int xb14]) rfl rfl hl.1 rfl (lv_room (Nat.le_of_ble_eq_true rfl)) dL_law_679 ⟨(by show 1584 + 0 ≤ 600086; omega), (by show 117551 + 0 ≤ 7301442; omega)⟩) hS (fun r119 s120 H locs hp118 hw hS => ?_)
      obtain ⟨err116, esr116⟩ := hp118
      obtain rfl := esr116.symm
      obtain rfl := err116.symm
      refine W.widen (k := 1584) (n := 117551) (by omega) (by omega) ?_
      refine lv_iload hx hb dL_law_682 (lv_at hl 3 rfl) ?_
      refine lv_icmp_eq (tgt := 693) hx hb dL_law_684 (by decide) (fun c121 => ?_) (fun c121 => ?_)
      · skip
        replace h := ite_p c121 h
        refine W.widen (k := 1584) (n := 117551) (by omega) (by omega) ?_
        exact blk693 G τ xb5 xb12 xb13 xb14 hGe hgr  h _ _ hw hS ls (lv_sub hl [0, 1, 2, 3, 4, 5] rfl)
      · skip
        replace h := ite_n c121 h
        refine lv_iinc (v := xb14 + 1) (lv' := [(14, .int (xb14 + 1)), (0, .ref (G.2.2.2.1.1 4)), (1, .ref (G.2.2.1 9 0)), (5, .long xb5), (12, .int xb12), (13, .int xb13)]) hx hb dL_law_687 hl (k := 5) rfl (by rfl) (by decide) rfl (fun ls hl => ?_)
        refine lv_goto (tgt := 674) hx hb dL_law_690 (by decide) ?_
        refine W.widen (k := 1584) (n := 117551) (by omega) (by omega) ?_
        exact ih674 G τ xb5 xb12 xb13 (xb14 + 1) hGe hgr  h _ _ hw hS ls (lv_sub hl [1, 2, 3, 4, 5, 0] rfl)
  have blk648 : ∀ (G : PvG) (τ : PvS) (xb2 : Int32) (xb5 : Int64), G = pvGa G0 G.2.2.1 → pvGr G0.2.2.1 G.2.2.1 σ τ → f_law_648 xs nn τ xb2 xb5 = some (1, σ1) → ∀ (H : Heap) (locs : List Loc), pvW G τ H → va_S (pvB G) s.heap H locs → ∀ (ls : Array Slot), lv_has ls 17 [(0, .ref (G.2.2.2.1.1 4)), (1, .ref (G.2.2.1 9 0)), (2, .int xb2), (5, .long xb5)] → W p l e room_1 s m args below meth c H locs (1584) (117551) Q (F0 m 648 ls []) := by
    intro G τ xb2 xb5 hGe hgr h H locs hw hS ls hl
    have hA := pvGe_A hGe hA0
    have hK := pvGe_K hGe hK0
    have htys := pvGe_T hGe htys0
    have hroot := pv_root hw
    unfold f_law_648 at h
    refine lv_iconst (v := 1) hx hb dL_law_648 (by decide) ?_
    refine lv_aload_n hx hb dL_law_649 rfl (lv_at hl 0 rfl) ?_
    refine lv_iconst (v := 5) hx hb dL_law_650 (by decide) ?_
    obtain ⟨g122, h⟩ := gd_e h
    obtain ⟨r123, e126, h⟩ := nq_e h
    refine pcalli (va_runS (As := [.ref (G.2.2.2.1.1 4), .int 5]) (rest := [.int 1]) ⟨hx, hb, hml, hown, hts⟩ (c_L_cell (l := l) (G := G) (tys := tys) htys (σ := τ) (k := (5 : Int32)) g122 (by rw [pvGe_sc hGe]; exact hlt0)) (va_cwS 2 hts (gSA wm214 wm215 wm216 wm217) rfl rfl rfl (by decide +kernel) ⟨(Nat.le_of_ble_eq_true rfl), (Nat.le_of_ble_eq_true rfl)⟩) (pv_preS hA hS hw hK [.ref (G.2.2.2.1.1 4), .int 5]) rfl rfl hl.1 rfl (lv_room (Nat.le_of_ble_eq_true rfl)) dL_law_651 ⟨(by show 1584 + 0 ≤ 600086; omega), (by show 117551 + 0 ≤ 7301442; omega)⟩) hS (fun r124 s125 H locs hp hw hS => ?_)
    obtain ⟨e127, e128⟩ := hp
    obtain rfl := e128.symm
    rw [pvGe_sc hGe, ← hxs0, ← hnn0] at e127
    obtain rfl : r123 = r124 := e126.trans e127.symm
    refine W.widen (k := 1584) (n := 117551) (by omega) (by omega) ?_
    refine lv_iload_n hx hb dL_law_654 rfl (lv_at hl 2 rfl) ?_
    refine lv_iconst (v := 1) hx hb dL_law_655 (by decide) ?_
    refine lv_isub hx hb dL_law_656 ?_
    obtain ⟨r129, e130, h⟩ := ob1_e h
    refine pcalli (va_runS (As := [.int r123, .int (xb2 - 1)]) (rest := [.int 1]) ⟨hx, hb, hml, hown, hts⟩ (c_L_below (l := l) (G := G) (tys := tys) (σ := τ) htys  e130) (va_cwS 2 hts (gSA wm219 wm220 wm216 wm221) rfl rfl rfl (by decide +kernel) ⟨(Nat.le_of_ble_eq_true rfl), (Nat.le_of_ble_eq_true rfl)⟩) (pv_preS hA hS hw hK [.int r123, .int (xb2 - 1)]) rfl rfl hl.1 rfl (lv_room (Nat.le_of_ble_eq_true rfl)) dL_law_657 ⟨(by show 1584 + 0 ≤ 600086; omega), (by show 117551 + 0 ≤ 7301442; omega)⟩) hS (fun r132 s133 H locs hp131 hw hS => ?_)
    obtain ⟨err129, esr129⟩ := hp131
    obtain rfl := esr129.symm
    obtain rfl := err129.symm
    refine W.widen (k := 1584) (n := 117551) (by omega) (by omega) ?_
    refine lv_iadd hx hb dL_law_660 ?_
    refine lv_istore (lv' := [(12, .int (1 + r129)), (0, .ref (G.2.2.2.1.1 4)), (1, .ref (G.2.2.1 9 0)), (2, .int xb2), (5, .long xb5)]) hx hb dL_law_661 hl (by decide) rfl (fun ls hl => ?_)
    refine lv_aload_n hx hb dL_law_663 rfl (lv_at hl 2 rfl) ?_
    refine lv_iload hx hb dL_law_664 (lv_at hl 0 rfl) ?_
    obtain ⟨r134, e135, h⟩ := ob1_e h
    refine pcalli (va_runV (As := [.int (1 + r129)]) (rest := []) ⟨hx, hb, hml, hown, hts⟩ (c_X9_parent (l := l) (G := G) (tys := tys) (σ := τ) htys  e135) (cwV 1 hts (gVA wm691 wm692 wm693 wm2 wm694) rfl rfl rfl (by decide +kernel) ⟨(Nat.le_of_ble_eq_true rfl), (Nat.le_of_ble_eq_true rfl)⟩) (pv_preV hA hS hw hK 9 0 Nat.one_pos (by decide) rfl [.int (1 + r129)]) rfl rfl hl.1 rfl (lv_room (Nat.le_of_ble_eq_true rfl)) dL_law_666 ⟨(by show 1584 + 0 ≤ 600086; omega), (by show 117551 + 0 ≤ 7301442; omega)⟩) hS (fun r137 s138 H locs hp136 hw hS => ?_)
    obtain ⟨err134, esr134⟩ := hp136
    obtain rfl := esr134.symm
    obtain rfl := err134.symm
    refine W.widen (k := 1584) (n := 117551) (by omega) (by omega) ?_
    refine lv_istore (lv' := [(13, .int r134), (12, .int (1 + r129)), (0, .ref (G.2.2.2.1.1 4)), (1, .ref (G.2.2.1 9 0)), (2, .int xb2), (5, .long xb5)]) hx hb dL_law_669 hl (by decide) rfl (fun ls hl => ?_)
    refine lv_iconst (v := 0) hx hb dL_law_671 (by decide) ?_
    refine lv_istore (lv' := [(14, .int 0), (13, .int r134), (12, .int (1 + r129)), (0, .ref (G.2.2.2.1.1 4)), (1, .ref (G.2.2.1 9 0)), (2, .int xb2), (5, .long xb5)]) hx hb dL_law_672 hl (by decide) rfl (fun ls hl => ?_)
    refine W.widen (k := 1584) (n := 117551) (by omega) (by omega) ?_
    exact loop674 fu G τ xb5 (1 + r129) r134 0 hGe hgr  h _ _ hw hS ls (lv_sub hl [3, 4, 6, 2, 1, 0] rfl)
  have blk597 : ∀ (G : PvG) (τ : PvS) (xb2 : Int32) (xb5 : Int64) (xb7 : Int32) (xb8 : Int32) (xb9 : Int32), G = pvGa G0 G.2.2.1 → pvGr G0.2.2.1 G.2.2.1 σ τ → f_law_597 xs nn τ xb2 xb5 xb7 xb8 xb9 = some (1, σ1) → ∀ (H : Heap) (locs : List Loc), pvW G τ H → va_S (pvB G) s.heap H locs → ∀ (ls : Array Slot), lv_has ls 17 [(0, .ref (G.2.2.2.1.1 4)), (1, .ref (G.2.2.1 9 0)), (2, .int xb2), (5, .long xb5), (7, .int xb7), (8, .int xb8), (9, .int xb9)] → W p l e room_1 s m args below meth c H locs (1584) (117551) Q (F0 m 597 ls []) := by
    intro G τ xb2 xb5 xb7 xb8 xb9 hGe hgr h H locs hw hS ls hl
    have hA := pvGe_A hGe hA0
    have hK := pvGe_K hGe hK0
    have htys := pvGe_T hGe htys0
    have hroot := pv_root hw
    unfold f_law_597 at h
    refine lv_aload_n hx hb dL_law_597 rfl (lv_at hl 1 rfl) ?_
    refine lv_iload hx hb dL_law_598 (lv_at hl 4 rfl) ?_
    obtain ⟨r139, σ140, e141, h⟩ := ob2_e h
    refine pcalli (va_runV (As := [.int xb7]) (rest := []) ⟨hx, hb, hml, hown, hts⟩ (c_X9_setView (l := l) (G := G) (tys := tys) (σ := τ) htys  e141) (cwV 1 hts (gVA wm843 wm844 wm845 wm2 wm846) rfl rfl rfl (by decide +kernel) ⟨(Nat.le_of_ble_eq_true rfl), (Nat.le_of_ble_eq_true rfl)⟩) (pv_preV hA hS hw hK 9 0 Nat.one_pos (by decide) rfl [.int xb7]) rfl rfl hl.1 rfl (lv_room (Nat.le_of_ble_eq_true rfl)) dL_law_600 ⟨(by show 1584 + 0 ≤ 600086; omega), (by show 117551 + 0 ≤ 7301442; omega)⟩) hS (fun r143 s144 H locs hp142 hw hS => ?_)
    obtain ⟨err139, esσ140, hdσ140⟩ := hp142
    obtain rfl := esσ140.symm
    have hcσ140 : σ140.1 = τ.1 := hdσ140
    obtain rfl := err139.symm
    refine W.widen (k := 1584) (n := 117551) (by omega) (by omega) ?_
    refine lv_istore (lv' := [(11, .int r139), (0, .ref (G.2.2.2.1.1 4)), (1, .ref (G.2.2.1 9 0)), (2, .int xb2), (5, .long xb5), (7, .int xb7), (8, .int xb8), (9, .int xb9)]) hx hb dL_law_603 hl (by decide) rfl (fun ls hl => ?_)
    refine lv_aload_n hx hb dL_law_605 rfl (lv_at hl 2 rfl) ?_
    obtain ⟨r145, σ146, e147, h⟩ := ob2_e h
    refine pcalli (va_runV (As := []) (rest := []) ⟨hx, hb, hml, hown, hts⟩ (c_X9_pageHeight (l := l) (G := G) (tys := tys) (σ := σ140) htys  e147) (cwV 0 hts (gVA wm754 wm755 wm756 wm2 wm757) rfl rfl rfl (by decide +kernel) ⟨(Nat.le_of_ble_eq_true rfl), (Nat.le_of_ble_eq_true rfl)⟩) (pv_preV hA hS hw hK 9 0 Nat.one_pos (by decide) rfl []) rfl rfl hl.1 rfl (lv_room (Nat.le_of_ble_eq_true rfl)) dL_law_606 ⟨(by show 1584 + 0 ≤ 600086; omega), (by show 117551 + 0 ≤ 7301442; omega)⟩) hS (fun r149 s150 H locs hp148 hw hS => ?_)
    obtain ⟨err145, esσ146, hdσ146⟩ := hp148
    obtain rfl := esσ146.symm
    have hcσ146 : σ146.1 = τ.1 := hdσ146.trans hcσ140
    obtain rfl := err145.symm
    refine W.widen (k := 1584) (n := 117551) (by omega) (by omega) ?_
    refine lv_iload hx hb dL_law_609 (lv_at hl 6 rfl) ?_
    refine lv_icmp_ne (tgt := 646) hx hb dL_law_611 (by decide) (fun c151 => ?_) (fun c151 => ?_)
    · skip
      replace h := ite_n c151 h
      refine lv_iconst (v := 0) hx hb dL_law_646 (by decide) ?_
      exact absurd (show (0 : Int32) = 1 from congrArg Prod.fst (Option.some.inj h)) (by decide)
    · skip
      replace h := ite_p c151 h
      refine lv_aload_n hx hb dL_law_614 rfl (lv_at hl 2 rfl) ?_
      refine lv_iload hx hb dL_law_615 (lv_at hl 0 rfl) ?_
      obtain ⟨r152, σ153, e154, h⟩ := ob2_e h
      refine pcalli (va_runV (As := [.int r139]) (rest := []) ⟨hx, hb, hml, hown, hts⟩ (c_X9_heightIn (l := l) (G := G) (tys := tys) (σ := σ146) htys  e154) (cwV 1 hts (gVA wm810 wm811 wm812 wm2 wm813) rfl rfl rfl (by decide +kernel) ⟨(Nat.le_of_ble_eq_true rfl), (Nat.le_of_ble_eq_true rfl)⟩) (pv_preV hA hS hw hK 9 0 Nat.one_pos (by decide) rfl [.int r139]) rfl rfl hl.1 rfl (lv_room (Nat.le_of_ble_eq_true rfl)) dL_law_617 ⟨(by show 1584 + 0 ≤ 600086; omega), (by show 117551 + 0 ≤ 7301442; omega)⟩) hS (fun r156 s157 H locs hp155 hw hS => ?_)
      obtain ⟨err152, esσ153, hdσ153⟩ := hp155
      obtain rfl := esσ153.symm
      have hcσ153 : σ153.1 = τ.1 := hdσ153.trans hcσ146
      obtain rfl := err152.symm
      refine W.widen (k := 1584) (n := 117551) (by omega) (by omega) ?_
      refine lv_iload hx hb dL_law_620 (lv_at hl 7 rfl) ?_
      refine lv_icmp_ne (tgt := 646) hx hb dL_law_622 (by decide) (fun c158 => ?_) (fun c158 => ?_)
      · skip
        replace h := ite_n c158 h
        refine lv_iconst (v := 0) hx hb dL_law_646 (by decide) ?_
        exact absurd (show (0 : Int32) = 1 from congrArg Prod.fst (Option.some.inj h)) (by decide)
      · skip
        replace h := ite_p c158 h
        refine lv_aload_n hx hb dL_law_625 rfl (lv_at hl 2 rfl) ?_
        refine lv_iload hx hb dL_law_626 (lv_at hl 0 rfl) ?_
        obtain ⟨r159, σ160, e161, h⟩ := ob2_e h
        refine pcalli (va_runV (As := [.int r139]) (rest := []) ⟨hx, hb, hml, hown, hts⟩ (c_X9_setView (l := l) (G := G) (tys := tys) (σ := σ153) htys  e161) (cwV 1 hts (gVA wm843 wm844 wm845 wm2 wm846) rfl rfl rfl (by decide +kernel) ⟨(Nat.le_of_ble_eq_true rfl), (Nat.le_of_ble_eq_true rfl)⟩) (pv_preV hA hS hw hK 9 0 Nat.one_pos (by decide) rfl [.int r139]) rfl rfl hl.1 rfl (lv_room (Nat.le_of_ble_eq_true rfl)) dL_law_628 ⟨(by show 1584 + 0 ≤ 600086; omega), (by show 117551 + 0 ≤ 7301442; omega)⟩) hS (fun r163 s164 H locs hp162 hw hS => ?_)
        obtain ⟨err159, esσ160, hdσ160⟩ := hp162
        obtain rfl := esσ160.symm
        have hcσ160 : σ160.1 = τ.1 := hdσ160.trans hcσ153
        obtain rfl := err159.symm
        refine W.widen (k := 1584) (n := 117551) (by omega) (by omega) ?_
        refine lv_iload hx hb dL_law_631 (lv_at hl 5 rfl) ?_
        refine lv_icmp_ne (tgt := 646) hx hb dL_law_633 (by decide) (fun c165 => ?_) (fun c165 => ?_)
        · skip
          replace h := ite_n c165 h
          refine lv_iconst (v := 0) hx hb dL_law_646 (by decide) ?_
          exact absurd (show (0 : Int32) = 1 from congrArg Prod.fst (Option.some.inj h)) (by decide)
        · skip
          replace h := ite_p c165 h
          refine lv_aload_n hx hb dL_law_636 rfl (lv_at hl 2 rfl) ?_
          obtain ⟨r166, σ167, e168, h⟩ := ob2_e h
          refine pcalll (va_runV (As := []) (rest := []) ⟨hx, hb, hml, hown, hts⟩ (c_X9_digest (l := l) (G := G) (tys := tys) (σ := σ160) htys  e168) (cwV 0 hts (gVA wm768 wm769 wm770 wm2 wm771) rfl rfl rfl (by decide +kernel) ⟨(Nat.le_of_ble_eq_true rfl), (Nat.le_of_ble_eq_true rfl)⟩) (pv_preV hA hS hw hK 9 0 Nat.one_pos (by decide) rfl []) rfl rfl hl.1 rfl (lv_room (Nat.le_of_ble_eq_true rfl)) dL_law_637 ⟨(by show 1584 + 0 ≤ 600086; omega), (by show 117551 + 0 ≤ 7301442; omega)⟩) hS (fun r170 s171 H locs hp169 hw hS => ?_)
          obtain ⟨err166, esσ167, hdσ167⟩ := hp169
          obtain rfl := esσ167.symm
          have hcσ167 : σ167.1 = τ.1 := hdσ167.trans hcσ160
          obtain rfl := err166.symm
          refine W.widen (k := 1584) (n := 117551) (by omega) (by omega) ?_
          refine lv_lload hx hb dL_law_640 (lv_at hl 4 rfl) ?_
          refine W.lcmp hx hb dL_law_642 ?_
          refine lv_if_eq (tgt := 648) hx hb dL_law_643 (by decide) (fun c172 => ?_) (fun c172 => ?_)
          · skip
            replace h := ite_p c172 h
            refine W.widen (k := 1584) (n := 117551) (by omega) (by omega) ?_
            exact blk648 G σ167 xb2 xb5 hGe (pvGr_r hcσ167 hgr)  h _ _ hw hS ls (lv_sub hl [1, 2, 3, 4] rfl)
          · skip
            replace h := ite_n c172 h
            refine lv_iconst (v := 0) hx hb dL_law_646 (by decide) ?_
            exact absurd (show (0 : Int32) = 1 from congrArg Prod.fst (Option.some.inj h)) (by decide)
  have blk557 : ∀ (G : PvG) (τ : PvS) (xb2 : Int32) (xb5 : Int64) (xb7 : Int32) (xb8 : Int32) (xb9 : Int32) (xbs0 : Int32), G = pvGa G0 G.2.2.1 → pvGr G0.2.2.1 G.2.2.1 σ τ → f_law_557 xs nn τ xb2 xb5 xb7 xb8 xb9 xbs0 = some (1, σ1) → ∀ (H : Heap) (locs : List Loc), pvW G τ H → va_S (pvB G) s.heap H locs → ∀ (ls : Array Slot), lv_has ls 17 [(0, .ref (G.2.2.2.1.1 4)), (1, .ref (G.2.2.1 9 0)), (2, .int xb2), (5, .long xb5), (7, .int xb7), (8, .int xb8), (9, .int xb9)] → W p l e room_1 s m args below meth c H locs (1584) (117551) Q (F0 m 557 ls [.int xbs0]) := by
    intro G τ xb2 xb5 xb7 xb8 xb9 xbs0 hGe hgr h H locs hw hS ls hl
    have hA := pvGe_A hGe hA0
    have hK := pvGe_K hGe hK0
    have htys := pvGe_T hGe htys0
    have hroot := pv_root hw
    unfold f_law_557 at h
    refine lv_istore (lv' := [(10, .int xbs0), (0, .ref (G.2.2.2.1.1 4)), (1, .ref (G.2.2.1 9 0)), (2, .int xb2), (5, .long xb5), (7, .int xb7), (8, .int xb8), (9, .int xb9)]) hx hb dL_law_557 hl (by decide) rfl (fun ls hl => ?_)
    refine lv_iload hx hb dL_law_559 (lv_at hl 0 rfl) ?_
    refine lv_if_lt (tgt := 595) hx hb dL_law_561 (by decide) (fun c173 => ?_) (fun c173 => ?_)
    · skip
      replace h := ite_p c173 h
      refine lv_iconst (v := 0) hx hb dL_law_595 (by decide) ?_
      exact absurd (show (0 : Int32) = 1 from congrArg Prod.fst (Option.some.inj h)) (by decide)
    · skip
      replace h := ite_n c173 h
      refine lv_iload hx hb dL_law_564 (lv_at hl 0 rfl) ?_
      refine lv_aload_n hx hb dL_law_566 rfl (lv_at hl 2 rfl) ?_
      obtain ⟨r174, e175, h⟩ := ob1_e h
      refine pcalli (va_runV (As := []) (rest := [.int xbs0]) ⟨hx, hb, hml, hown, hts⟩ (c_X9_nodes (l := l) (G := G) (tys := tys) (σ := τ) htys  e175) (cwV 0 hts (gVA wm750 wm751 wm752 wm2 wm753) rfl rfl rfl (by decide +kernel) ⟨(Nat.le_of_ble_eq_true rfl), (Nat.le_of_ble_eq_true rfl)⟩) (pv_preV hA hS hw hK 9 0 Nat.one_pos (by decide) rfl []) rfl rfl hl.1 rfl (lv_room (Nat.le_of_ble_eq_true rfl)) dL_law_567 ⟨(by show 1584 + 0 ≤ 600086; omega), (by show 117551 + 0 ≤ 7301442; omega)⟩) hS (fun r177 s178 H locs hp176 hw hS => ?_)
      obtain ⟨err174, esr174⟩ := hp176
      obtain rfl := esr174.symm
      obtain rfl := err174.symm
      refine W.widen (k := 1584) (n := 117551) (by omega) (by omega) ?_
      refine lv_icmp_gt (tgt := 595) hx hb dL_law_570 (by decide) (fun c179 => ?_) (fun c179 => ?_)
      · skip
        replace h := ite_p c179 h
        refine lv_iconst (v := 0) hx hb dL_law_595 (by decide) ?_
        exact absurd (show (0 : Int32) = 1 from congrArg Prod.fst (Option.some.inj h)) (by decide)
      · skip
        replace h := ite_n c179 h
        refine lv_aload_n hx hb dL_law_573 rfl (lv_at hl 2 rfl) ?_
        refine lv_sipush (v := (-5000)) hx hb dL_law_574 (by decide) ?_
        refine lv_iconst (v := 0) hx hb dL_law_577 (by decide) ?_
        obtain ⟨r180, σ181, e182, h⟩ := ob2_e h
        refine pcalli (va_runV (As := [.int (-5000), .int 0]) (rest := []) ⟨hx, hb, hml, hown, hts⟩ (c_X9_hit (l := l) (G := G) (tys := tys) (σ := τ) htys  e182) (cwV 2 hts (gVA wm825 wm826 wm827 wm2 wm828) rfl rfl rfl (by decide +kernel) ⟨(Nat.le_of_ble_eq_true rfl), (Nat.le_of_ble_eq_true rfl)⟩) (pv_preV hA hS hw hK 9 0 Nat.one_pos (by decide) rfl [.int (-5000), .int 0]) rfl rfl hl.1 rfl (lv_room (Nat.le_of_ble_eq_true rfl)) dL_law_578 ⟨(by show 1584 + 0 ≤ 600086; omega), (by show 117551 + 0 ≤ 7301442; omega)⟩) hS (fun r184 s185 H locs hp183 hw hS => ?_)
        obtain ⟨err180, esσ181, hdσ181⟩ := hp183
        obtain rfl := esσ181.symm
        have hcσ181 : σ181.1 = τ.1 := hdσ181
        obtain rfl := err180.symm
        refine W.widen (k := 1584) (n := 117551) (by omega) (by omega) ?_
        refine lv_iconst (v := (-1)) hx hb dL_law_581 (by decide) ?_
        refine lv_icmp_ne (tgt := 595) hx hb dL_law_582 (by decide) (fun c186 => ?_) (fun c186 => ?_)
        · skip
          replace h := ite_n c186 h
          refine lv_iconst (v := 0) hx hb dL_law_595 (by decide) ?_
          exact absurd (show (0 : Int32) = 1 from congrArg Prod.fst (Option.some.inj h)) (by decide)
        · skip
          replace h := ite_p c186 h
          refine lv_aload_n hx hb dL_law_585 rfl (lv_at hl 2 rfl) ?_
          obtain ⟨r187, σ188, e189, h⟩ := ob2_e h
          refine pcalll (va_runV (As := []) (rest := []) ⟨hx, hb, hml, hown, hts⟩ (c_X9_digest (l := l) (G := G) (tys := tys) (σ := σ181) htys  e189) (cwV 0 hts (gVA wm768 wm769 wm770 wm2 wm771) rfl rfl rfl (by decide +kernel) ⟨(Nat.le_of_ble_eq_true rfl), (Nat.le_of_ble_eq_true rfl)⟩) (pv_preV hA hS hw hK 9 0 Nat.one_pos (by decide) rfl []) rfl rfl hl.1 rfl (lv_room (Nat.le_of_ble_eq_true rfl)) dL_law_586 ⟨(by show 1584 + 0 ≤ 600086; omega), (by show 117551 + 0 ≤ 7301442; omega)⟩) hS (fun r191 s192 H locs hp190 hw hS => ?_)
          obtain ⟨err187, esσ188, hdσ188⟩ := hp190
          obtain rfl := esσ188.symm
          have hcσ188 : σ188.1 = τ.1 := hdσ188.trans hcσ181
          obtain rfl := err187.symm
          refine W.widen (k := 1584) (n := 117551) (by omega) (by omega) ?_
          refine lv_lload hx hb dL_law_589 (lv_at hl 4 rfl) ?_
          refine W.lcmp hx hb dL_law_591 ?_
          refine lv_if_eq (tgt := 597) hx hb dL_law_592 (by decide) (fun c193 => ?_) (fun c193 => ?_)
          · skip
            replace h := ite_p c193 h
            refine W.widen (k := 1584) (n := 117551) (by omega) (by omega) ?_
            exact blk597 G σ188 xb2 xb5 xb7 xb8 xb9 hGe (pvGr_r hcσ188 hgr)  h _ _ hw hS ls (lv_sub hl [1, 2, 3, 4, 5, 6, 7] rfl)
          · skip
            replace h := ite_n c193 h
            refine lv_iconst (v := 0) hx hb dL_law_595 (by decide) ?_
            exact absurd (show (0 : Int32) = 1 from congrArg Prod.fst (Option.some.inj h)) (by decide)
  have blk485 : ∀ (G : PvG) (τ : PvS) (xb2 : Int32), G = pvGa G0 G.2.2.1 → pvGr G0.2.2.1 G.2.2.1 σ τ → f_law_485 xs nn τ xb2 = some (1, σ1) → ∀ (H : Heap) (locs : List Loc), pvW G τ H → va_S (pvB G) s.heap H locs → ∀ (ls : Array Slot), lv_has ls 17 [(0, .ref (G.2.2.2.1.1 4)), (1, .ref (G.2.2.1 9 0)), (2, .int xb2)] → W p l e room_1 s m args below meth c H locs (1584) (117551) Q (F0 m 485 ls []) := by
    intro G τ xb2 hGe hgr h H locs hw hS ls hl
    have hA := pvGe_A hGe hA0
    have hK := pvGe_K hGe hK0
    have htys := pvGe_T hGe htys0
    have hroot := pv_root hw
    unfold f_law_485 at h
    refine lv_aload_n hx hb dL_law_485 rfl (lv_at hl 1 rfl) ?_
    obtain ⟨r194, σ195, e196, h⟩ := ob2_e h
    refine pcalli (va_runS (As := [.ref (G.2.2.1 9 0)]) (rest := []) ⟨hx, hb, hml, hown, hts⟩ (c_L_isSound (l := l) (G := G) (tys := tys) (σ := τ) htys  e196) (va_cwS 1 hts (gSA wm395 wm396 wm216 wm397) rfl rfl rfl (by decide +kernel) ⟨(Nat.le_of_ble_eq_true rfl), (Nat.le_of_ble_eq_true rfl)⟩) (pv_preS hA hS hw hK [.ref (G.2.2.1 9 0)]) rfl rfl hl.1 rfl (lv_room (Nat.le_of_ble_eq_true rfl)) dL_law_486 ⟨(by show 1584 + 0 ≤ 600086; omega), (by show 117551 + 0 ≤ 7301442; omega)⟩) hS (fun r198 s199 H locs hp197 hw hS => ?_)
    obtain ⟨err194, esσ195, hdσ195, hzr194⟩ := hp197
    obtain rfl := esσ195.symm
    have hcσ195 : σ195.1 = τ.1 := hdσ195
    obtain rfl := err194.symm
    refine W.widen (k := 1584) (n := 117551) (by omega) (by omega) ?_
    refine lv_if_ne (tgt := 494) hx hb dL_law_489 (by decide) (fun c200 => ?_) (fun c200 => ?_)
    · skip
      replace h := ite_n c200 h
      refine lv_aload_n hx hb dL_law_494 rfl (lv_at hl 1 rfl) ?_
      obtain ⟨r201, σ202, e203, h⟩ := ob2_e h
      refine pcalll (va_runV (As := []) (rest := []) ⟨hx, hb, hml, hown, hts⟩ (c_X9_digest (l := l) (G := G) (tys := tys) (σ := σ195) htys  e203) (cwV 0 hts (gVA wm768 wm769 wm770 wm2 wm771) rfl rfl rfl (by decide +kernel) ⟨(Nat.le_of_ble_eq_true rfl), (Nat.le_of_ble_eq_true rfl)⟩) (pv_preV hA hS hw hK 9 0 Nat.one_pos (by decide) rfl []) rfl rfl hl.1 rfl (lv_room (Nat.le_of_ble_eq_true rfl)) dL_law_495 ⟨(by show 1584 + 0 ≤ 600086; omega), (by show 117551 + 0 ≤ 7301442; omega)⟩) hS (fun r205 s206 H locs hp204 hw hS => ?_)
      obtain ⟨err201, esσ202, hdσ202⟩ := hp204
      obtain rfl := esσ202.symm
      have hcσ202 : σ202.1 = τ.1 := hdσ202.trans hcσ195
      obtain rfl := err201.symm
      refine W.widen (k := 1584) (n := 117551) (by omega) (by omega) ?_
      refine lv_lstore (lv' := [(5, .long r201), (0, .ref (G.2.2.2.1.1 4)), (1, .ref (G.2.2.1 9 0)), (2, .int xb2)]) hx hb dL_law_498 hl (by decide) rfl (fun ls hl => ?_)
      refine lv_bipush (v := 20) hx hb dL_law_500 (by decide) ?_
      refine lv_aload_n hx hb dL_law_502 rfl (lv_at hl 1 rfl) ?_
      refine lv_iconst (v := 3) hx hb dL_law_503 (by decide) ?_
      obtain ⟨g207, h⟩ := gd_e h
      obtain ⟨r208, e211, h⟩ := nq_e h
      refine pcalli (va_runS (As := [.ref (G.2.2.2.1.1 4), .int 3]) (rest := [.int 20]) ⟨hx, hb, hml, hown, hts⟩ (c_L_cell (l := l) (G := G) (tys := tys) htys (σ := σ202) (k := (3 : Int32)) g207 (by rw [pvGe_sc hGe]; exact hlt0)) (va_cwS 2 hts (gSA wm214 wm215 wm216 wm217) rfl rfl rfl (by decide +kernel) ⟨(Nat.le_of_ble_eq_true rfl), (Nat.le_of_ble_eq_true rfl)⟩) (pv_preS hA hS hw hK [.ref (G.2.2.2.1.1 4), .int 3]) rfl rfl hl.1 rfl (lv_room (Nat.le_of_ble_eq_true rfl)) dL_law_504 ⟨(by show 1584 + 0 ≤ 600086; omega), (by show 117551 + 0 ≤ 7301442; omega)⟩) hS (fun r209 s210 H locs hp hw hS => ?_)
      obtain ⟨e212, e213⟩ := hp
      obtain rfl := e213.symm
      rw [pvGe_sc hGe, ← hxs0, ← hnn0] at e212
      obtain rfl : r208 = r209 := e211.trans e212.symm
      refine W.widen (k := 1584) (n := 117551) (by omega) (by omega) ?_
      refine lv_sipush (v := 500) hx hb dL_law_507 (by decide) ?_
      obtain ⟨r214, e215, h⟩ := ob1_e h
      refine pcalli (va_runS (As := [.int r208, .int 500]) (rest := [.int 20]) ⟨hx, hb, hml, hown, hts⟩ (c_L_below (l := l) (G := G) (tys := tys) (σ := σ202) htys  e215) (va_cwS 2 hts (gSA wm219 wm220 wm216 wm221) rfl rfl rfl (by decide +kernel) ⟨(Nat.le_of_ble_eq_true rfl), (Nat.le_of_ble_eq_true rfl)⟩) (pv_preS hA hS hw hK [.int r208, .int 500]) rfl rfl hl.1 rfl (lv_room (Nat.le_of_ble_eq_true rfl)) dL_law_510 ⟨(by show 1584 + 0 ≤ 600086; omega), (by show 117551 + 0 ≤ 7301442; omega)⟩) hS (fun r217 s218 H locs hp216 hw hS => ?_)
      obtain ⟨err214, esr214⟩ := hp216
      obtain rfl := esr214.symm
      obtain rfl := err214.symm
      refine W.widen (k := 1584) (n := 117551) (by omega) (by omega) ?_
      refine lv_iadd hx hb dL_law_513 ?_
      refine lv_istore (lv' := [(7, .int (20 + r214)), (5, .long r201), (0, .ref (G.2.2.2.1.1 4)), (1, .ref (G.2.2.1 9 0)), (2, .int xb2)]) hx hb dL_law_514 hl (by decide) rfl (fun ls hl => ?_)
      refine lv_aload_n hx hb dL_law_516 rfl (lv_at hl 3 rfl) ?_
      refine lv_iload hx hb dL_law_517 (lv_at hl 0 rfl) ?_
      obtain ⟨r219, σ220, e221, h⟩ := ob2_e h
      refine pcalli (va_runV (As := [.int (20 + r214)]) (rest := []) ⟨hx, hb, hml, hown, hts⟩ (c_X9_heightIn (l := l) (G := G) (tys := tys) (σ := σ202) htys  e221) (cwV 1 hts (gVA wm810 wm811 wm812 wm2 wm813) rfl rfl rfl (by decide +kernel) ⟨(Nat.le_of_ble_eq_true rfl), (Nat.le_of_ble_eq_true rfl)⟩) (pv_preV hA hS hw hK 9 0 Nat.one_pos (by decide) rfl [.int (20 + r214)]) rfl rfl hl.1 rfl (lv_room (Nat.le_of_ble_eq_true rfl)) dL_law_519 ⟨(by show 1584 + 0 ≤ 600086; omega), (by show 117551 + 0 ≤ 7301442; omega)⟩) hS (fun r223 s224 H locs hp222 hw hS => ?_)
      obtain ⟨err219, esσ220, hdσ220⟩ := hp222
      obtain rfl := esσ220.symm
      have hcσ220 : σ220.1 = τ.1 := hdσ220.trans hcσ202
      obtain rfl := err219.symm
      refine W.widen (k := 1584) (n := 117551) (by omega) (by omega) ?_
      refine lv_istore (lv' := [(8, .int r219), (7, .int (20 + r214)), (5, .long r201), (0, .ref (G.2.2.2.1.1 4)), (1, .ref (G.2.2.1 9 0)), (2, .int xb2)]) hx hb dL_law_522 hl (by decide) rfl (fun ls hl => ?_)
      refine lv_aload_n hx hb dL_law_524 rfl (lv_at hl 4 rfl) ?_
      obtain ⟨r225, σ226, e227, h⟩ := ob2_e h
      refine pcalli (va_runV (As := []) (rest := []) ⟨hx, hb, hml, hown, hts⟩ (c_X9_pageHeight (l := l) (G := G) (tys := tys) (σ := σ220) htys  e227) (cwV 0 hts (gVA wm754 wm755 wm756 wm2 wm757) rfl rfl rfl (by decide +kernel) ⟨(Nat.le_of_ble_eq_true rfl), (Nat.le_of_ble_eq_true rfl)⟩) (pv_preV hA hS hw hK 9 0 Nat.one_pos (by decide) rfl []) rfl rfl hl.1 rfl (lv_room (Nat.le_of_ble_eq_true rfl)) dL_law_525 ⟨(by show 1584 + 0 ≤ 600086; omega), (by show 117551 + 0 ≤ 7301442; omega)⟩) hS (fun r229 s230 H locs hp228 hw hS => ?_)
      obtain ⟨err225, esσ226, hdσ226⟩ := hp228
      obtain rfl := esσ226.symm
      have hcσ226 : σ226.1 = τ.1 := hdσ226.trans hcσ220
      obtain rfl := err225.symm
      refine W.widen (k := 1584) (n := 117551) (by omega) (by omega) ?_
      refine lv_istore (lv' := [(9, .int r225), (8, .int r219), (7, .int (20 + r214)), (5, .long r201), (0, .ref (G.2.2.2.1.1 4)), (1, .ref (G.2.2.1 9 0)), (2, .int xb2)]) hx hb dL_law_528 hl (by decide) rfl (fun ls hl => ?_)
      refine lv_aload_n hx hb dL_law_530 rfl (lv_at hl 5 rfl) ?_
      obtain ⟨r231, e232, h⟩ := ob1_e h
      refine pcalli (va_runV (As := []) (rest := []) ⟨hx, hb, hml, hown, hts⟩ (c_X9_rules (l := l) (G := G) (tys := tys) (σ := σ226) htys  e232) (cwV 0 hts (gVA wm741 wm742 wm743 wm2 wm744) rfl rfl rfl (by decide +kernel) ⟨(Nat.le_of_ble_eq_true rfl), (Nat.le_of_ble_eq_true rfl)⟩) (pv_preV hA hS hw hK 9 0 Nat.one_pos (by decide) rfl []) rfl rfl hl.1 rfl (lv_room (Nat.le_of_ble_eq_true rfl)) dL_law_531 ⟨(by show 1584 + 0 ≤ 600086; omega), (by show 117551 + 0 ≤ 7301442; omega)⟩) hS (fun r234 s235 H locs hp233 hw hS => ?_)
      obtain ⟨err231, esr231⟩ := hp233
      obtain rfl := esr231.symm
      obtain rfl := err231.symm
      refine W.widen (k := 1584) (n := 117551) (by omega) (by omega) ?_
      refine lv_if_ne (tgt := 541) hx hb dL_law_534 (by decide) (fun c236 => ?_) (fun c236 => ?_)
      · skip
        replace h := ite_n c236 h
        refine lv_aload_n hx hb dL_law_541 rfl (lv_at hl 5 rfl) ?_
        refine lv_aload_n hx hb dL_law_542 rfl (lv_at hl 4 rfl) ?_
        refine lv_iconst (v := 4) hx hb dL_law_543 (by decide) ?_
        obtain ⟨g237, h⟩ := gd_e h
        obtain ⟨r238, e241, h⟩ := nq_e h
        refine pcalli (va_runS (As := [.ref (G.2.2.2.1.1 4), .int 4]) (rest := [.ref (G.2.2.1 9 0)]) ⟨hx, hb, hml, hown, hts⟩ (c_L_cell (l := l) (G := G) (tys := tys) htys (σ := σ226) (k := (4 : Int32)) g237 (by rw [pvGe_sc hGe]; exact hlt0)) (va_cwS 2 hts (gSA wm214 wm215 wm216 wm217) rfl rfl rfl (by decide +kernel) ⟨(Nat.le_of_ble_eq_true rfl), (Nat.le_of_ble_eq_true rfl)⟩) (pv_preS hA hS hw hK [.ref (G.2.2.2.1.1 4), .int 4]) rfl rfl hl.1 rfl (lv_room (Nat.le_of_ble_eq_true rfl)) dL_law_544 ⟨(by show 1584 + 0 ≤ 600086; omega), (by show 117551 + 0 ≤ 7301442; omega)⟩) hS (fun r239 s240 H locs hp hw hS => ?_)
        obtain ⟨e242, e243⟩ := hp
        obtain rfl := e243.symm
        rw [pvGe_sc hGe, ← hxs0, ← hnn0] at e242
        obtain rfl : r238 = r239 := e241.trans e242.symm
        refine W.widen (k := 1584) (n := 117551) (by omega) (by omega) ?_
        refine lv_aload_n hx hb dL_law_547 rfl (lv_at hl 5 rfl) ?_
        obtain ⟨r244, e245, h⟩ := ob1_e h
        refine pcalli (va_runV (As := []) (rest := [.int r238, .ref (G.2.2.1 9 0)]) ⟨hx, hb, hml, hown, hts⟩ (c_X9_rules (l := l) (G := G) (tys := tys) (σ := σ226) htys  e245) (cwV 0 hts (gVA wm741 wm742 wm743 wm2 wm744) rfl rfl rfl (by decide +kernel) ⟨(Nat.le_of_ble_eq_true rfl), (Nat.le_of_ble_eq_true rfl)⟩) (pv_preV hA hS hw hK 9 0 Nat.one_pos (by decide) rfl []) rfl rfl hl.1 rfl (lv_room (Nat.le_of_ble_eq_true rfl)) dL_law_548 ⟨(by show 1584 + 0 ≤ 600086; omega), (by show 117551 + 0 ≤ 7301442; omega)⟩) hS (fun r247 s248 H locs hp246 hw hS => ?_)
        obtain ⟨err244, esr244⟩ := hp246
        obtain rfl := esr244.symm
        obtain rfl := err244.symm
        refine W.widen (k := 1584) (n := 117551) (by omega) (by omega) ?_
        obtain ⟨r249, e250, h⟩ := ob1_e h
        refine pcalli (va_runS (As := [.int r238, .int r244]) (rest := [.ref (G.2.2.1 9 0)]) ⟨hx, hb, hml, hown, hts⟩ (c_L_below (l := l) (G := G) (tys := tys) (σ := σ226) htys  e250) (va_cwS 2 hts (gSA wm219 wm220 wm216 wm221) rfl rfl rfl (by decide +kernel) ⟨(Nat.le_of_ble_eq_true rfl), (Nat.le_of_ble_eq_true rfl)⟩) (pv_preS hA hS hw hK [.int r238, .int r244]) rfl rfl hl.1 rfl (lv_room (Nat.le_of_ble_eq_true rfl)) dL_law_551 ⟨(by show 1584 + 0 ≤ 600086; omega), (by show 117551 + 0 ≤ 7301442; omega)⟩) hS (fun r252 s253 H locs hp251 hw hS => ?_)
        obtain ⟨err249, esr249⟩ := hp251
        obtain rfl := esr249.symm
        obtain rfl := err249.symm
        refine W.widen (k := 1584) (n := 117551) (by omega) (by omega) ?_
        obtain ⟨r254, σ255, e256, h⟩ := ob2_e h
        refine pcalli (va_runV (As := [.int r249]) (rest := []) ⟨hx, hb, hml, hown, hts⟩ (c_X9_changedBy (l := l) (G := G) (tys := tys) (σ := σ226) htys  e256) (cwV 1 hts (gVA wm817 wm818 wm819 wm2 wm820) rfl rfl rfl (by decide +kernel) ⟨(Nat.le_of_ble_eq_true rfl), (Nat.le_of_ble_eq_true rfl)⟩) (pv_preV hA hS hw hK 9 0 Nat.one_pos (by decide) rfl [.int r249]) rfl rfl hl.1 rfl (lv_room (Nat.le_of_ble_eq_true rfl)) dL_law_554 ⟨(by show 1584 + 0 ≤ 600086; omega), (by show 117551 + 0 ≤ 7301442; omega)⟩) hS (fun r258 s259 H locs hp257 hw hS => ?_)
        obtain ⟨err254, esσ255, hdσ255⟩ := hp257
        obtain rfl := esσ255.symm
        have hcσ255 : σ255.1 = τ.1 := hdσ255.trans hcσ226
        obtain rfl := err254.symm
        refine W.widen (k := 1584) (n := 117551) (by omega) (by omega) ?_
        refine W.widen (k := 1584) (n := 117551) (by omega) (by omega) ?_
        exact blk557 G σ255 xb2 r201 (20 + r214) r219 r225 r254 hGe (pvGr_r hcσ255 hgr)  h _ _ hw hS ls (lv_sub hl [4, 5, 6, 3, 2, 1, 0] rfl)
      · skip
        replace h := ite_p c236 h
        refine lv_iconst (v := 0) hx hb dL_law_537 (by decide) ?_
        refine lv_goto (tgt := 557) hx hb dL_law_538 (by decide) ?_
        refine W.widen (k := 1584) (n := 117551) (by omega) (by omega) ?_
        exact blk557 G σ226 xb2 r201 (20 + r214) r219 r225 0 hGe (pvGr_r hcσ226 hgr)  h _ _ hw hS ls (lv_sub hl [4, 5, 6, 3, 2, 1, 0] rfl)
    · skip
      replace h := ite_p c200 h
      refine lv_iconst (v := 0) hx hb dL_law_492 (by decide) ?_
      exact absurd (show (0 : Int32) = 1 from congrArg Prod.fst (Option.some.inj h)) (by decide)
  have loop98 : ∀ (n : Nat), n ≤ 16 → ∀ (G : PvG) (τ : PvS) (xb2 : Int32) (ub3 : Nat) (ub4 : Nat) (xb5 : Int32), G = pvGa G0 G.2.2.1 → pvGr G0.2.2.1 G.2.2.1 σ τ → (ub3 < pvM τ 51) → (ub4 < pvM τ 53) → f_law_98 xs nn n τ xb2 ub3 ub4 xb5 = some (1, σ1) → ∀ (H : Heap) (locs : List Loc), pvW G τ H → va_S (pvB G) s.heap H locs → ∀ (ls : Array Slot), lv_has ls 17 [(0, .ref (G.2.2.2.1.1 4)), (1, .ref (G.2.2.1 9 0)), (2, .int xb2), (3, .ref (G.2.2.1 51 ub3)), (4, .ref (G.2.2.1 53 ub4)), (5, .int xb5)] → W p l e room_1 s m args below meth c H locs (1472 + 7 * (16 - n) + 0) (115455 + 131 * (16 - n) + 0) Q (F0 m 98 ls []) := by
    intro n98
    induction n98 with
    | zero =>
      intro _ G τ xb2 ub3 ub4 xb5 hGe hgr hub3 hub4 h
      rw [f_law_98_z] at h
      cases h
    | succ n98 ih98 =>
      intro hn98
      have loop153 : ∀ (n : Nat), ∀ (G : PvG) (τ : PvS) (xb2 : Int32) (ub3 : Nat) (ub4 : Nat) (xb5 : Int32) (xb6 : Int32) (xb7 : Int32) (xb8 : Int32), G = pvGa G0 G.2.2.1 → pvGr G0.2.2.1 G.2.2.1 σ τ → (ub3 < pvM τ 51) → (ub4 < pvM τ 53) → f_law_153 (f_law_98 xs nn n98) xs nn n τ xb2 ub3 ub4 xb5 xb6 xb7 xb8 = some (1, σ1) → ∀ (H : Heap) (locs : List Loc), pvW G τ H → va_S (pvB G) s.heap H locs → ∀ (ls : Array Slot), lv_has ls 17 [(0, .ref (G.2.2.2.1.1 4)), (1, .ref (G.2.2.1 9 0)), (2, .int xb2), (3, .ref (G.2.2.1 51 ub3)), (4, .ref (G.2.2.1 53 ub4)), (5, .int xb5), (6, .int xb6), (7, .int xb7), (8, .int xb8)] → W p l e room_1 s m args below meth c H locs (1472 + 7 * (16 - (n98 + 1)) + 0) (115455 + 131 * (16 - (n98 + 1)) + 0) Q (F0 m 153 ls []) := by
        intro n153
        induction n153 with
        | zero =>
          intro G τ xb2 ub3 ub4 xb5 xb6 xb7 xb8 hGe hgr hub3 hub4 h
          rw [f_law_153_z] at h
          cases h
        | succ n153 ih153 =>
          intro G τ xb2 ub3 ub4 xb5 xb6 xb7 xb8 hGe hgr hub3 hub4 h H locs hw hS ls hl
          have hA := pvGe_A hGe hA0
          have hK := pvGe_K hGe hK0
          have htys := pvGe_T hGe htys0
          have hroot := pv_root hw
          rw [f_law_153_s] at h
          refine lv_iload hx hb dL_law_153 (lv_at hl 8 rfl) ?_
          refine lv_if_le (tgt := 194) hx hb dL_law_155 (by decide) (fun c260 => ?_) (fun c260 => ?_)
          · skip
            replace h := ite_p c260 h
            refine lv_goto (tgt := 479) hx hb dL_law_194 (by decide) ?_
            refine lv_iinc (v := xb5 + 1) (lv' := [(5, .int (xb5 + 1)), (0, .ref (G.2.2.2.1.1 4)), (1, .ref (G.2.2.1 9 0)), (2, .int xb2), (3, .ref (G.2.2.1 51 ub3)), (4, .ref (G.2.2.1 53 ub4)), (6, .int xb6), (7, .int xb7), (8, .int xb8)]) hx hb dL_law_479 hl (k := 5) rfl (by rfl) (by decide) rfl (fun ls hl => ?_)
            refine lv_goto (tgt := 98) hx hb dL_law_482 (by decide) ?_
            refine W.widen (k := 1472 + 7 * (16 - n98) + 0) (n := 115455 + 131 * (16 - n98) + 0) (by omega) (by omega) ?_
            exact ih98 (by omega) G τ xb2 ub3 ub4 (xb5 + 1) hGe hgr hub3 hub4 h _ _ hw hS ls (lv_sub hl [1, 2, 3, 4, 5, 0] rfl)
          · skip
            replace h := ite_n c260 h
            refine lv_aload_n hx hb dL_law_158 rfl (lv_at hl 1 rfl) ?_
            refine lv_iload hx hb dL_law_159 (lv_at hl 7 rfl) ?_
            obtain ⟨r261, e262, h⟩ := ob1_e h
            refine pcalli (va_runV (As := [.int xb7]) (rest := []) ⟨hx, hb, hml, hown, hts⟩ (c_X9_size (l := l) (G := G) (tys := tys) (σ := τ) htys  e262) (cwV 1 hts (gVA wm321 wm322 wm323 wm2 wm324) rfl rfl rfl (by decide +kernel) ⟨(Nat.le_of_ble_eq_true rfl), (Nat.le_of_ble_eq_true rfl)⟩) (pv_preV hA hS hw hK 9 0 Nat.one_pos (by decide) rfl [.int xb7]) rfl rfl hl.1 rfl (lv_room (Nat.le_of_ble_eq_true rfl)) dL_law_161 ⟨(by show 1472 + 7 * (16 - (n98 + 1)) + 0 + 0 ≤ 600086; omega), (by show 115455 + 131 * (16 - (n98 + 1)) + 0 + 0 ≤ 7301442; omega)⟩) hS (fun r264 s265 H locs hp263 hw hS => ?_)
            obtain ⟨err261, esr261⟩ := hp263
            obtain rfl := esr261.symm
            obtain rfl := err261.symm
            refine W.widen (k := 1472 + 7 * (16 - (n98 + 1)) + 0) (n := 115455 + 131 * (16 - (n98 + 1)) + 0) (by omega) (by omega) ?_
            refine lv_bipush (v := 20) hx hb dL_law_164 (by decide) ?_
            refine lv_icmp_ge (tgt := 194) hx hb dL_law_166 (by decide) (fun c266 => ?_) (fun c266 => ?_)
            · skip
              replace h := ite_p c266 h
              refine lv_goto (tgt := 479) hx hb dL_law_194 (by decide) ?_
              refine lv_iinc (v := xb5 + 1) (lv' := [(5, .int (xb5 + 1)), (0, .ref (G.2.2.2.1.1 4)), (1, .ref (G.2.2.1 9 0)), (2, .int xb2), (3, .ref (G.2.2.1 51 ub3)), (4, .ref (G.2.2.1 53 ub4)), (6, .int xb6), (7, .int xb7), (8, .int xb8)]) hx hb dL_law_479 hl (k := 5) rfl (by rfl) (by decide) rfl (fun ls hl => ?_)
              refine lv_goto (tgt := 98) hx hb dL_law_482 (by decide) ?_
              refine W.widen (k := 1472 + 7 * (16 - n98) + 0) (n := 115455 + 131 * (16 - n98) + 0) (by omega) (by omega) ?_
              exact ih98 (by omega) G τ xb2 ub3 ub4 (xb5 + 1) hGe hgr hub3 hub4 h _ _ hw hS ls (lv_sub hl [1, 2, 3, 4, 5, 0] rfl)
            · skip
              replace h := ite_n c266 h
              refine lv_aload_n hx hb dL_law_169 rfl (lv_at hl 1 rfl) ?_
              refine lv_iload hx hb dL_law_170 (lv_at hl 7 rfl) ?_
              refine lv_iconst (v := 1) hx hb dL_law_172 (by decide) ?_
              refine lv_iload hx hb dL_law_173 (lv_at hl 6 rfl) ?_
              refine lv_iload hx hb dL_law_175 (lv_at hl 8 rfl) ?_
              refine lv_ishr hx hb dL_law_177 ?_
              refine lv_bipush (v := 12) hx hb dL_law_178 (by decide) ?_
              obtain ⟨r267, e268, h⟩ := ob1_e h
              refine pcalli (va_runS (As := [.int (xb6 >>> (xb8 &&& 31)), .int 12]) (rest := [.int 1, .int xb7, .ref (G.2.2.1 9 0)]) ⟨hx, hb, hml, hown, hts⟩ (c_L_below (l := l) (G := G) (tys := tys) (σ := τ) htys  e268) (va_cwS 2 hts (gSA wm219 wm220 wm216 wm221) rfl rfl rfl (by decide +kernel) ⟨(Nat.le_of_ble_eq_true rfl), (Nat.le_of_ble_eq_true rfl)⟩) (pv_preS hA hS hw hK [.int (xb6 >>> (xb8 &&& 31)), .int 12]) rfl rfl hl.1 rfl (lv_room (Nat.le_of_ble_eq_true rfl)) dL_law_180 ⟨(by show 1472 + 7 * (16 - (n98 + 1)) + 0 + 0 ≤ 600086; omega), (by show 115455 + 131 * (16 - (n98 + 1)) + 0 + 0 ≤ 7301442; omega)⟩) hS (fun r270 s271 H locs hp269 hw hS => ?_)
              obtain ⟨err267, esr267⟩ := hp269
              obtain rfl := esr267.symm
              obtain rfl := err267.symm
              refine W.widen (k := 1472 + 7 * (16 - (n98 + 1)) + 0) (n := 115455 + 131 * (16 - (n98 + 1)) + 0) (by omega) (by omega) ?_
              refine lv_iadd hx hb dL_law_183 ?_
              obtain ⟨r272, σ273, e274, h⟩ := ob2_e h
              refine pcalli (va_runV (As := [.int xb7, .int (1 + r267)]) (rest := []) ⟨hx, hb, hml, hown, hts⟩ (c_X9_addWord (l := l) (G := G) (tys := tys) (σ := τ) htys  e274) (cwV 2 hts (gVA wm328 wm329 wm330 wm2 wm331) rfl rfl rfl (by decide +kernel) ⟨(Nat.le_of_ble_eq_true rfl), (Nat.le_of_ble_eq_true rfl)⟩) (pv_preV hA hS hw hK 9 0 Nat.one_pos (by decide) rfl [.int xb7, .int (1 + r267)]) rfl rfl hl.1 rfl (lv_room (Nat.le_of_ble_eq_true rfl)) dL_law_184 ⟨(by show 1472 + 7 * (16 - (n98 + 1)) + 0 + 0 ≤ 600086; omega), (by show 115455 + 131 * (16 - (n98 + 1)) + 0 + 0 ≤ 7301442; omega)⟩) hS (fun r276 s277 H locs hp275 hw hS => ?_)
              obtain ⟨err272, esσ273, hdσ273⟩ := hp275
              obtain rfl := esσ273.symm
              have hcσ273 : σ273.1 = τ.1 := hdσ273
              obtain rfl := err272.symm
              refine W.widen (k := 1472 + 7 * (16 - (n98 + 1)) + 0) (n := 115455 + 131 * (16 - (n98 + 1)) + 0) (by omega) (by omega) ?_
              refine lv_pop hx hb dL_law_187 rfl ?_
              refine lv_iinc (v := xb8 + (-1)) (lv' := [(8, .int (xb8 + (-1))), (0, .ref (G.2.2.2.1.1 4)), (1, .ref (G.2.2.1 9 0)), (2, .int xb2), (3, .ref (G.2.2.1 51 ub3)), (4, .ref (G.2.2.1 53 ub4)), (5, .int xb5), (6, .int xb6), (7, .int xb7)]) hx hb dL_law_188 hl (k := 8) rfl (by rfl) (by decide) rfl (fun ls hl => ?_)
              refine lv_goto (tgt := 153) hx hb dL_law_191 (by decide) ?_
              refine W.widen (k := 1472 + 7 * (16 - (n98 + 1)) + 0) (n := 115455 + 131 * (16 - (n98 + 1)) + 0) (by omega) (by omega) ?_
              exact ih153 G σ273 xb2 ub3 ub4 xb5 xb6 xb7 (xb8 + (-1)) hGe (pvGr_r hcσ273 hgr) (lt_c hcσ273 51 hub3) (lt_c hcσ273 53 hub4) h _ _ hw hS ls (lv_sub hl [1, 2, 3, 4, 5, 6, 7, 8, 0] rfl)
      have blk430 : ∀ (G : PvG) (τ : PvS) (xb2 : Int32) (ub3 : Nat) (ub4 : Nat) (xb5 : Int32) (xb6 : Int32) (xb7 : Int32) (xbs0 : Int32) (xbs1 : Int32) (xbs2 : Int32), G = pvGa G0 G.2.2.1 → pvGr G0.2.2.1 G.2.2.1 σ τ → (ub3 < pvM τ 51) → (ub4 < pvM τ 53) → f_law_430 (f_law_98 xs nn n98) xs nn τ xb2 ub3 ub4 xb5 xb6 xb7 xbs0 xbs1 xbs2 = some (1, σ1) → ∀ (H : Heap) (locs : List Loc), pvW G τ H → va_S (pvB G) s.heap H locs → ∀ (ls : Array Slot), lv_has ls 17 [(0, .ref (G.2.2.2.1.1 4)), (1, .ref (G.2.2.1 9 0)), (2, .int xb2), (3, .ref (G.2.2.1 51 ub3)), (4, .ref (G.2.2.1 53 ub4)), (5, .int xb5), (6, .int xb6), (7, .int xb7)] → W p l e room_1 s m args below meth c H locs (1472 + 7 * (16 - (n98 + 1)) + 1) (115455 + 131 * (16 - (n98 + 1)) + 13) Q (F0 m 430 ls [.int xbs0, .int xbs1, .int xbs2, .ref (G.2.2.1 9 0)]) := by
        intro G τ xb2 ub3 ub4 xb5 xb6 xb7 xbs0 xbs1 xbs2 hGe hgr hub3 hub4 h H locs hw hS ls hl
        have hA := pvGe_A hGe hA0
        have hK := pvGe_K hGe hK0
        have htys := pvGe_T hGe htys0
        have hroot := pv_root hw
        unfold f_law_430 at h
        obtain ⟨r278, σ279, e280, h⟩ := ob2_e h
        refine pcallai (G := G) (va_runV (As := [.int xbs2, .int xbs1, .int xbs0]) (rest := []) ⟨hx, hb, hml, hown, hts⟩ (c_X9_addRule (l := l) (G := G) (tys := tys) (σ := τ) htys  e280) (cwV 3 hts (gVA wm353 wm354 wm355 wm2 wm356) rfl rfl rfl (by decide +kernel) ⟨(Nat.le_of_ble_eq_true rfl), (Nat.le_of_ble_eq_true rfl)⟩) (pv_preV hA hS hw hK 9 0 Nat.one_pos (by decide) rfl [.int xbs2, .int xbs1, .int xbs0]) rfl rfl hl.1 rfl (lv_room (Nat.le_of_ble_eq_true rfl)) dL_law_430 ⟨(by show 1472 + 7 * (16 - (n98 + 1)) + 1 + 6 ≤ 600086; omega), (by show 115455 + 131 * (16 - (n98 + 1)) + 13 + 118 ≤ 7301442; omega)⟩) hS (fun r282 ad284 s283 H locs hp281 hw hS => ?_)
        obtain ⟨err278, esσ279, hgσ279⟩ := hp281
        have esσ279 : s283 = σ279 := esσ279
        obtain rfl := esσ279.symm
        obtain rfl := err278.symm
        have hgσ279 : pvGr G.2.2.1 ad284 τ σ279 := hgσ279
        refine W.widen (k := 1472 + 7 * (16 - (n98 + 1)) + 7) (n := 115455 + 131 * (16 - (n98 + 1)) + 131) (by omega) (by omega) ?_
        have ea285 : ad284 9 0 = G.2.2.1 9 0 := hgσ279.1.1 9 0 Nat.one_pos
        have ea286 : ad284 51 ub3 = G.2.2.1 51 ub3 := hgσ279.1.1 51 ub3 hub3
        have ea287 : ad284 53 ub4 = G.2.2.1 53 ub4 := hgσ279.1.1 53 ub4 hub4
        have hl : lv_has ls 17 [(0, .ref (G.2.2.2.1.1 4)), (1, .ref (ad284 9 0)), (2, .int xb2), (3, .ref (ad284 51 ub3)), (4, .ref (ad284 53 ub4)), (5, .int xb5), (6, .int xb6), (7, .int xb7)] := by rw [ea285, ea286, ea287]; exact hl
        refine W.eq (g2 := F0 m 433 ls [.int r278]) (congrArg (F0 m 433 ls) (by first | rfl | rfl | (rfl; rfl))) ?_
        have hf288 : ub3 < pvM σ279 51 := hgσ279.2.1 51 ub3 hub3
        have hf289 : ub4 < pvM σ279 53 := hgσ279.2.1 53 ub4 hub4
        have hgr := pvGr_trans hgr hgσ279
        obtain ⟨G, hGn⟩ : ∃ G2 : PvG, G2 = pvGa G ad284 := ⟨_, rfl⟩
        rw [← hGn] at hw
        have hgr : pvGr G0.2.2.1 G.2.2.1 σ σ279 := by rw [hGn]; exact hgr
        have hGe := pvGe_next hGe hGn
        have hA : pvA0 G s s.heap := by rw [hGn]; exact hA
        have hK : va_K G.2.1 pvC tys s := by rw [hGn]; exact hK
        have htys : tys = pvT G := by rw [hGn]; exact htys
        have hS := pvGn_S hGn hS
        have hl : lv_has ls 17 [(0, .ref (G.2.2.2.1.1 4)), (1, .ref (G.2.2.1 9 0)), (2, .int xb2), (3, .ref (G.2.2.1 51 ub3)), (4, .ref (G.2.2.1 53 ub4)), (5, .int xb5), (6, .int xb6), (7, .int xb7)] := by rw [hGn]; exact hl
        refine W.eq (g2 := F0 m 433 ls [.int r278]) (by first | rfl | rw [hGn]) ?_
        have hroot := pv_root hw
        refine lv_istore (lv' := [(11, .int r278), (0, .ref (G.2.2.2.1.1 4)), (1, .ref (G.2.2.1 9 0)), (2, .int xb2), (3, .ref (G.2.2.1 51 ub3)), (4, .ref (G.2.2.1 53 ub4)), (5, .int xb5), (6, .int xb6), (7, .int xb7)]) hx hb dL_law_433 hl (by decide) rfl (fun ls hl => ?_)
        refine lv_aload_n hx hb dL_law_435 rfl (lv_at hl 2 rfl) ?_
        refine lv_iload hx hb dL_law_436 (lv_at hl 0 rfl) ?_
        refine lv_aload_n hx hb dL_law_438 rfl (lv_at hl 4 rfl) ?_
        refine lv_iload hx hb dL_law_439 (lv_at hl 8 rfl) ?_
        obtain ⟨g290, h⟩ := gd_e h
        obtain ⟨o291, eo291, h⟩ := nq_e h
        have ho291 := pv_cl hw eo291
        refine pgQM hx hb hK htys hw ub3 hf288 g290 o291 eo291 dL_law_441 ?_
        have ho291 : ∀ j, o291 = some j → j < pvM σ279 52 := ho291
        rcases o291 with _ | jo291
        · cases (oc_n h)
        replace h := oc_s h
        have hjo291 := ho291 jo291 rfl
        refine lv_iconst (v := 2) hx hb dL_law_442 (by decide) ?_
        obtain ⟨g292, h⟩ := gd_e h
        refine pgA hx hb hK htys hw 52 jo291 hjo291 rfl (by decide) g292 dL_law_443 ?_
        refine lv_iconst (v := (-1)) hx hb dL_law_444 (by decide) ?_
        refine lv_iconst (v := 0) hx hb dL_law_445 (by decide) ?_
        refine lv_iconst (v := 0) hx hb dL_law_446 (by decide) ?_
        obtain ⟨r293, σ294, e295, h⟩ := ob2_e h
        refine pcalli (va_runV (As := [.int r278, .int (σ279.2.2.2.1 52 jo291 (2 : Int32).toNatClampNeg), .int (-1), .int 0, .int 0]) (rest := []) ⟨hx, hb, hml, hown, hts⟩ (c_X9_addPart (l := l) (G := G) (tys := tys) (σ := σ279) htys  e295) (cwV 5 hts (gVA wm376 wm377 wm378 wm2 wm379) rfl rfl rfl (by decide +kernel) ⟨(Nat.le_of_ble_eq_true rfl), (Nat.le_of_ble_eq_true rfl)⟩) (pv_preV hA hS hw hK 9 0 Nat.one_pos (by decide) rfl [.int r278, .int (σ279.2.2.2.1 52 jo291 (2 : Int32).toNatClampNeg), .int (-1), .int 0, .int 0]) rfl rfl hl.1 rfl (lv_room (Nat.le_of_ble_eq_true rfl)) dL_law_447 ⟨(by show 1472 + 7 * (16 - (n98 + 1)) + 7 + 0 ≤ 600086; omega), (by show 115455 + 131 * (16 - (n98 + 1)) + 131 + 0 ≤ 7301442; omega)⟩) hS (fun r297 s298 H locs hp296 hw hS => ?_)
        obtain ⟨err293, esσ294, hdσ294⟩ := hp296
        obtain rfl := esσ294.symm
        have hcσ294 : σ294.1 = σ279.1 := hdσ294
        obtain rfl := err293.symm
        refine W.widen (k := 1472 + 7 * (16 - (n98 + 1)) + 7) (n := 115455 + 131 * (16 - (n98 + 1)) + 131) (by omega) (by omega) ?_
        refine lv_pop hx hb dL_law_450 rfl ?_
        refine lv_iload hx hb dL_law_451 (lv_at hl 7 rfl) ?_
        refine lv_bipush (v := 8) hx hb dL_law_453 (by decide) ?_
        refine lv_ishr hx hb dL_law_455 ?_
        refine lv_iconst (v := 3) hx hb dL_law_456 (by decide) ?_
        obtain ⟨r299, e300, h⟩ := ob1_e h
        refine pcalli (va_runS (As := [.int (xb6 >>> (8 &&& 31)), .int 3]) (rest := []) ⟨hx, hb, hml, hown, hts⟩ (c_L_below (l := l) (G := G) (tys := tys) (σ := σ294) htys  e300) (va_cwS 2 hts (gSA wm219 wm220 wm216 wm221) rfl rfl rfl (by decide +kernel) ⟨(Nat.le_of_ble_eq_true rfl), (Nat.le_of_ble_eq_true rfl)⟩) (pv_preS hA hS hw hK [.int (xb6 >>> (8 &&& 31)), .int 3]) rfl rfl hl.1 rfl (lv_room (Nat.le_of_ble_eq_true rfl)) dL_law_457 ⟨(by show 1472 + 7 * (16 - (n98 + 1)) + 7 + 0 ≤ 600086; omega), (by show 115455 + 131 * (16 - (n98 + 1)) + 131 + 0 ≤ 7301442; omega)⟩) hS (fun r302 s303 H locs hp301 hw hS => ?_)
        obtain ⟨err299, esr299⟩ := hp301
        obtain rfl := esr299.symm
        obtain rfl := err299.symm
        refine W.widen (k := 1472 + 7 * (16 - (n98 + 1)) + 7) (n := 115455 + 131 * (16 - (n98 + 1)) + 131) (by omega) (by omega) ?_
        refine lv_if_ne (tgt := 479) hx hb dL_law_460 (by decide) (fun c304 => ?_) (fun c304 => ?_)
        · skip
          replace h := ite_n c304 h
          refine lv_iinc (v := xb5 + 1) (lv' := [(5, .int (xb5 + 1)), (11, .int r278), (0, .ref (G.2.2.2.1.1 4)), (1, .ref (G.2.2.1 9 0)), (2, .int xb2), (3, .ref (G.2.2.1 51 ub3)), (4, .ref (G.2.2.1 53 ub4)), (6, .int xb6), (7, .int xb7)]) hx hb dL_law_479 hl (k := 6) rfl (by rfl) (by decide) rfl (fun ls hl => ?_)
          refine lv_goto (tgt := 98) hx hb dL_law_482 (by decide) ?_
          refine W.widen (k := 1472 + 7 * (16 - n98) + 0) (n := 115455 + 131 * (16 - n98) + 0) (by omega) (by omega) ?_
          exact ih98 (by omega) G σ294 xb2 ub3 ub4 (xb5 + 1) hGe (pvGr_r hcσ294 hgr) (lt_c hcσ294 51 hf288) (lt_c hcσ294 53 hf289) h _ _ hw hS ls (lv_sub hl [2, 3, 4, 5, 6, 0] rfl)
        · skip
          replace h := ite_p c304 h
          refine lv_aload_n hx hb dL_law_463 rfl (lv_at hl 2 rfl) ?_
          refine lv_iload hx hb dL_law_464 (lv_at hl 8 rfl) ?_
          refine lv_iload hx hb dL_law_466 (lv_at hl 7 rfl) ?_
          refine lv_iconst (v := 2) hx hb dL_law_468 (by decide) ?_
          refine lv_ishr hx hb dL_law_469 ?_
          refine lv_bipush (v := 90) hx hb dL_law_470 (by decide) ?_
          obtain ⟨r305, e306, h⟩ := ob1_e h
          refine pcalli (va_runS (As := [.int (xb6 >>> (2 &&& 31)), .int 90]) (rest := [.int xb7, .ref (G.2.2.1 9 0)]) ⟨hx, hb, hml, hown, hts⟩ (c_L_below (l := l) (G := G) (tys := tys) (σ := σ294) htys  e306) (va_cwS 2 hts (gSA wm219 wm220 wm216 wm221) rfl rfl rfl (by decide +kernel) ⟨(Nat.le_of_ble_eq_true rfl), (Nat.le_of_ble_eq_true rfl)⟩) (pv_preS hA hS hw hK [.int (xb6 >>> (2 &&& 31)), .int 90]) rfl rfl hl.1 rfl (lv_room (Nat.le_of_ble_eq_true rfl)) dL_law_472 ⟨(by show 1472 + 7 * (16 - (n98 + 1)) + 7 + 0 ≤ 600086; omega), (by show 115455 + 131 * (16 - (n98 + 1)) + 131 + 0 ≤ 7301442; omega)⟩) hS (fun r308 s309 H locs hp307 hw hS => ?_)
          obtain ⟨err305, esr305⟩ := hp307
          obtain rfl := esr305.symm
          obtain rfl := err305.symm
          refine W.widen (k := 1472 + 7 * (16 - (n98 + 1)) + 7) (n := 115455 + 131 * (16 - (n98 + 1)) + 131) (by omega) (by omega) ?_
          obtain ⟨r310, σ311, e312, h⟩ := ob2_e h
          refine pcalli (va_runV (As := [.int xb7, .int r305]) (rest := []) ⟨hx, hb, hml, hown, hts⟩ (c_X9_scroll (l := l) (G := G) (tys := tys) (σ := σ294) htys  e312) (cwV 2 hts (gVA wm390 wm391 wm392 wm2 wm393) rfl rfl rfl (by decide +kernel) ⟨(Nat.le_of_ble_eq_true rfl), (Nat.le_of_ble_eq_true rfl)⟩) (pv_preV hA hS hw hK 9 0 Nat.one_pos (by decide) rfl [.int xb7, .int r305]) rfl rfl hl.1 rfl (lv_room (Nat.le_of_ble_eq_true rfl)) dL_law_475 ⟨(by show 1472 + 7 * (16 - (n98 + 1)) + 7 + 0 ≤ 600086; omega), (by show 115455 + 131 * (16 - (n98 + 1)) + 131 + 0 ≤ 7301442; omega)⟩) hS (fun r314 s315 H locs hp313 hw hS => ?_)
          obtain ⟨err310, esσ311, hdσ311⟩ := hp313
          obtain rfl := esσ311.symm
          have hcσ311 : σ311.1 = σ279.1 := hdσ311.trans hcσ294
          obtain rfl := err310.symm
          refine W.widen (k := 1472 + 7 * (16 - (n98 + 1)) + 7) (n := 115455 + 131 * (16 - (n98 + 1)) + 131) (by omega) (by omega) ?_
          refine lv_pop hx hb dL_law_478 rfl ?_
          refine lv_iinc (v := xb5 + 1) (lv' := [(5, .int (xb5 + 1)), (11, .int r278), (0, .ref (G.2.2.2.1.1 4)), (1, .ref (G.2.2.1 9 0)), (2, .int xb2), (3, .ref (G.2.2.1 51 ub3)), (4, .ref (G.2.2.1 53 ub4)), (6, .int xb6), (7, .int xb7)]) hx hb dL_law_479 hl (k := 6) rfl (by rfl) (by decide) rfl (fun ls hl => ?_)
          refine lv_goto (tgt := 98) hx hb dL_law_482 (by decide) ?_
          refine W.widen (k := 1472 + 7 * (16 - n98) + 0) (n := 115455 + 131 * (16 - n98) + 0) (by omega) (by omega) ?_
          exact ih98 (by omega) G σ311 xb2 ub3 ub4 (xb5 + 1) hGe (pvGr_r hcσ311 hgr) (lt_c hcσ311 51 hf288) (lt_c hcσ311 53 hf289) h _ _ hw hS ls (lv_sub hl [2, 3, 4, 5, 6, 0] rfl)
      intro G τ xb2 ub3 ub4 xb5 hGe hgr hub3 hub4 h H locs hw hS ls hl
      have hA := pvGe_A hGe hA0
      have hK := pvGe_K hGe hK0
      have htys := pvGe_T hGe htys0
      have hroot := pv_root hw
      rw [f_law_98_s] at h
      refine lv_iload hx hb dL_law_98 (lv_at hl 5 rfl) ?_
      refine lv_bipush (v := 14) hx hb dL_law_100 (by decide) ?_
      refine lv_icmp_ge (tgt := 485) hx hb dL_law_102 (by decide) (fun c316 => ?_) (fun c316 => ?_)
      · skip
        replace h := ite_p c316 h
        refine W.widen (k := 1584) (n := 117551) (by omega) (by omega) ?_
        exact blk485 G τ xb2 hGe hgr  h _ _ hw hS ls (lv_sub hl [0, 1, 2] rfl)
      · skip
        replace h := ite_n c316 h
        refine lv_aload_n hx hb dL_law_105 rfl (lv_at hl 0 rfl) ?_
        refine lv_iload hx hb dL_law_106 (lv_at hl 5 rfl) ?_
        obtain ⟨g317, h⟩ := gd_e h
        obtain ⟨r318, e321, h⟩ := nq_e h
        refine pcalli (va_runS (As := [.ref (G.2.2.2.1.1 4), .int xb5]) (rest := []) ⟨hx, hb, hml, hown, hts⟩ (c_L_cell (l := l) (G := G) (tys := tys) htys (σ := τ) (k := xb5) g317 (by rw [pvGe_sc hGe]; exact hlt0)) (va_cwS 2 hts (gSA wm214 wm215 wm216 wm217) rfl rfl rfl (by decide +kernel) ⟨(Nat.le_of_ble_eq_true rfl), (Nat.le_of_ble_eq_true rfl)⟩) (pv_preS hA hS hw hK [.ref (G.2.2.2.1.1 4), .int xb5]) rfl rfl hl.1 rfl (lv_room (Nat.le_of_ble_eq_true rfl)) dL_law_108 ⟨(by show 1472 + 7 * (16 - (n98 + 1)) + 0 + 0 ≤ 600086; omega), (by show 115455 + 131 * (16 - (n98 + 1)) + 0 + 0 ≤ 7301442; omega)⟩) hS (fun r319 s320 H locs hp hw hS => ?_)
        obtain ⟨e322, e323⟩ := hp
        obtain rfl := e323.symm
        rw [pvGe_sc hGe, ← hxs0, ← hnn0] at e322
        obtain rfl : r318 = r319 := e321.trans e322.symm
        refine W.widen (k := 1472 + 7 * (16 - (n98 + 1)) + 0) (n := 115455 + 131 * (16 - (n98 + 1)) + 0) (by omega) (by omega) ?_
        refine lv_iconst (v := 3) hx hb dL_law_111 (by decide) ?_
        refine lv_imul hx hb dL_law_112 ?_
        refine lv_aload_n hx hb dL_law_113 rfl (lv_at hl 0 rfl) ?_
        refine lv_bipush (v := 15) hx hb dL_law_114 (by decide) ?_
        refine lv_iload hx hb dL_law_116 (lv_at hl 5 rfl) ?_
        refine lv_isub hx hb dL_law_118 ?_
        obtain ⟨g324, h⟩ := gd_e h
        obtain ⟨r325, e328, h⟩ := nq_e h
        refine pcalli (va_runS (As := [.ref (G.2.2.2.1.1 4), .int (15 - xb5)]) (rest := [.int (r318 * 3)]) ⟨hx, hb, hml, hown, hts⟩ (c_L_cell (l := l) (G := G) (tys := tys) htys (σ := τ) (k := 15 - xb5) g324 (by rw [pvGe_sc hGe]; exact hlt0)) (va_cwS 2 hts (gSA wm214 wm215 wm216 wm217) rfl rfl rfl (by decide +kernel) ⟨(Nat.le_of_ble_eq_true rfl), (Nat.le_of_ble_eq_true rfl)⟩) (pv_preS hA hS hw hK [.ref (G.2.2.2.1.1 4), .int (15 - xb5)]) rfl rfl hl.1 rfl (lv_room (Nat.le_of_ble_eq_true rfl)) dL_law_119 ⟨(by show 1472 + 7 * (16 - (n98 + 1)) + 0 + 0 ≤ 600086; omega), (by show 115455 + 131 * (16 - (n98 + 1)) + 0 + 0 ≤ 7301442; omega)⟩) hS (fun r326 s327 H locs hp hw hS => ?_)
        obtain ⟨e329, e330⟩ := hp
        obtain rfl := e330.symm
        rw [pvGe_sc hGe, ← hxs0, ← hnn0] at e329
        obtain rfl : r325 = r326 := e328.trans e329.symm
        refine W.widen (k := 1472 + 7 * (16 - (n98 + 1)) + 0) (n := 115455 + 131 * (16 - (n98 + 1)) + 0) (by omega) (by omega) ?_
        refine lv_iadd hx hb dL_law_122 ?_
        refine lv_istore (lv' := [(6, .int ((r318 * 3) + r325)), (0, .ref (G.2.2.2.1.1 4)), (1, .ref (G.2.2.1 9 0)), (2, .int xb2), (3, .ref (G.2.2.1 51 ub3)), (4, .ref (G.2.2.1 53 ub4)), (5, .int xb5)]) hx hb dL_law_123 hl (by decide) rfl (fun ls hl => ?_)
        refine lv_iload hx hb dL_law_125 (lv_at hl 0 rfl) ?_
        refine lv_iload_n hx hb dL_law_127 rfl (lv_at hl 3 rfl) ?_
        obtain ⟨r331, e332, h⟩ := ob1_e h
        refine pcalli (va_runS (As := [.int ((r318 * 3) + r325), .int xb2]) (rest := []) ⟨hx, hb, hml, hown, hts⟩ (c_L_below (l := l) (G := G) (tys := tys) (σ := τ) htys  e332) (va_cwS 2 hts (gSA wm219 wm220 wm216 wm221) rfl rfl rfl (by decide +kernel) ⟨(Nat.le_of_ble_eq_true rfl), (Nat.le_of_ble_eq_true rfl)⟩) (pv_preS hA hS hw hK [.int ((r318 * 3) + r325), .int xb2]) rfl rfl hl.1 rfl (lv_room (Nat.le_of_ble_eq_true rfl)) dL_law_128 ⟨(by show 1472 + 7 * (16 - (n98 + 1)) + 0 + 0 ≤ 600086; omega), (by show 115455 + 131 * (16 - (n98 + 1)) + 0 + 0 ≤ 7301442; omega)⟩) hS (fun r334 s335 H locs hp333 hw hS => ?_)
        obtain ⟨err331, esr331⟩ := hp333
        obtain rfl := esr331.symm
        obtain rfl := err331.symm
        refine W.widen (k := 1472 + 7 * (16 - (n98 + 1)) + 0) (n := 115455 + 131 * (16 - (n98 + 1)) + 0) (by omega) (by omega) ?_
        refine lv_istore (lv' := [(7, .int r331), (6, .int ((r318 * 3) + r325)), (0, .ref (G.2.2.2.1.1 4)), (1, .ref (G.2.2.1 9 0)), (2, .int xb2), (3, .ref (G.2.2.1 51 ub3)), (4, .ref (G.2.2.1 53 ub4)), (5, .int xb5)]) hx hb dL_law_131 hl (by decide) rfl (fun ls hl => ?_)
        refine lv_aload_n hx hb dL_law_133 rfl (lv_at hl 5 rfl) ?_
        refine lv_iload hx hb dL_law_134 (lv_at hl 0 rfl) ?_
        obtain ⟨g336, h⟩ := gd_e h
        obtain ⟨o337, eo337, h⟩ := nq_e h
        have ho337 := pv_cl hw eo337
        refine pgQM hx hb hK htys hw ub3 hub3 g336 o337 eo337 dL_law_136 ?_
        have ho337 : ∀ j, o337 = some j → j < pvM τ 52 := ho337
        rcases o337 with _ | jo337
        · cases (oc_n h)
        replace h := oc_s h
        have hjo337 := ho337 jo337 rfl
        refine lv_iconst (v := 1) hx hb dL_law_137 (by decide) ?_
        obtain ⟨g338, h⟩ := gd_e h
        refine pgA hx hb hK htys hw 52 jo337 hjo337 rfl (by decide) g338 dL_law_138 ?_
        refine lv_iconst (v := 1) hx hb dL_law_139 (by decide) ?_
        refine lv_icmp_ne (tgt := 197) hx hb dL_law_140 (by decide) (fun c339 => ?_) (fun c339 => ?_)
        · skip
          replace h := ite_n c339 h
          refine lv_aload hx hb dL_law_197 (lv_at hl 6 rfl) ?_
          refine lv_iload hx hb dL_law_199 (lv_at hl 1 rfl) ?_
          refine lv_iconst (v := 2) hx hb dL_law_201 (by decide) ?_
          refine lv_ishr hx hb dL_law_202 ?_
          refine lv_bipush (v := 12) hx hb dL_law_203 (by decide) ?_
          obtain ⟨r340, e341, h⟩ := ob1_e h
          refine pcalli (va_runS (As := [.int (((r318 * 3) + r325) >>> (2 &&& 31)), .int 12]) (rest := [.ref (G.2.2.1 53 ub4)]) ⟨hx, hb, hml, hown, hts⟩ (c_L_below (l := l) (G := G) (tys := tys) (σ := τ) htys  e341) (va_cwS 2 hts (gSA wm219 wm220 wm216 wm221) rfl rfl rfl (by decide +kernel) ⟨(Nat.le_of_ble_eq_true rfl), (Nat.le_of_ble_eq_true rfl)⟩) (pv_preS hA hS hw hK [.int (((r318 * 3) + r325) >>> (2 &&& 31)), .int 12]) rfl rfl hl.1 rfl (lv_room (Nat.le_of_ble_eq_true rfl)) dL_law_205 ⟨(by show 1472 + 7 * (16 - (n98 + 1)) + 0 + 0 ≤ 600086; omega), (by show 115455 + 131 * (16 - (n98 + 1)) + 0 + 0 ≤ 7301442; omega)⟩) hS (fun r343 s344 H locs hp342 hw hS => ?_)
          obtain ⟨err340, esr340⟩ := hp342
          obtain rfl := esr340.symm
          obtain rfl := err340.symm
          refine W.widen (k := 1472 + 7 * (16 - (n98 + 1)) + 0) (n := 115455 + 131 * (16 - (n98 + 1)) + 0) (by omega) (by omega) ?_
          obtain ⟨g345, h⟩ := gd_e h
          refine pgA hx hb hK htys hw 53 ub4 hub4 rfl (by decide) g345 dL_law_208 ?_
          refine lv_istore (lv' := [(8, .int (τ.2.2.2.1 53 ub4 r340.toNatClampNeg)), (7, .int r331), (6, .int ((r318 * 3) + r325)), (0, .ref (G.2.2.2.1.1 4)), (1, .ref (G.2.2.1 9 0)), (2, .int xb2), (3, .ref (G.2.2.1 51 ub3)), (4, .ref (G.2.2.1 53 ub4)), (5, .int xb5)]) hx hb dL_law_209 hl (by decide) rfl (fun ls hl => ?_)
          refine lv_bipush (v := 13) hx hb dL_law_211 (by decide) ?_
          obtain ⟨σ346, eσ346, h⟩ := nq_e h
          refine pnewA hx hb (hts _ wm3) hA hK htys hw hS (t := 54) (N := 13) (by decide) (by decide) (by decide) (by show 1472 + 7 * (16 - (n98 + 1)) + 0 + 1 ≤ 600086; omega) (by show 115455 + 131 * (16 - (n98 + 1)) + 0 + 13 ≤ 7301442; omega) dL_law_213 (fun ad347 H hg348 hw hS => ?_)
          rw [← eσ346] at hw hg348
          refine W.widen (k := 1472 + 7 * (16 - (n98 + 1)) + 1) (n := 115455 + 131 * (16 - (n98 + 1)) + 13) (by omega) (by omega) ?_
          have ea349 : ad347 9 0 = G.2.2.1 9 0 := hg348.1.1 9 0 Nat.one_pos
          have ea350 : ad347 51 ub3 = G.2.2.1 51 ub3 := hg348.1.1 51 ub3 hub3
          have ea351 : ad347 53 ub4 = G.2.2.1 53 ub4 := hg348.1.1 53 ub4 hub4
          have hl : lv_has ls 17 [(8, .int (τ.2.2.2.1 53 ub4 r340.toNatClampNeg)), (7, .int r331), (6, .int ((r318 * 3) + r325)), (0, .ref (G.2.2.2.1.1 4)), (1, .ref (ad347 9 0)), (2, .int xb2), (3, .ref (ad347 51 ub3)), (4, .ref (ad347 53 ub4)), (5, .int xb5)] := by rw [ea349, ea350, ea351]; exact hl
          refine W.eq (g2 := F0 m 215 ls [.ref (ad347 54 (τ.1 5))]) (congrArg (F0 m 215 ls) (by first | rfl | rfl | (rfl; rfl))) ?_
          have hf352 : ub3 < pvM σ346 51 := hg348.2.1 51 ub3 hub3
          have hf353 : ub4 < pvM σ346 53 := hg348.2.1 53 ub4 hub4
          have hgr := pvGr_trans hgr hg348
          obtain ⟨G, hGn⟩ : ∃ G2 : PvG, G2 = pvGa G ad347 := ⟨_, rfl⟩
          rw [← hGn] at hw
          have hgr : pvGr G0.2.2.1 G.2.2.1 σ σ346 := by rw [hGn]; exact hgr
          have hGe := pvGe_next hGe hGn
          have hA : pvA0 G s s.heap := by rw [hGn]; exact hA
          have hK : va_K G.2.1 pvC tys s := by rw [hGn]; exact hK
          have htys : tys = pvT G := by rw [hGn]; exact htys
          have hS := pvGn_S hGn hS
          have hl : lv_has ls 17 [(8, .int (τ.2.2.2.1 53 ub4 r340.toNatClampNeg)), (7, .int r331), (6, .int ((r318 * 3) + r325)), (0, .ref (G.2.2.2.1.1 4)), (1, .ref (G.2.2.1 9 0)), (2, .int xb2), (3, .ref (G.2.2.1 51 ub3)), (4, .ref (G.2.2.1 53 ub4)), (5, .int xb5)] := by rw [hGn]; exact hl
          refine W.eq (g2 := F0 m 215 ls [.ref (G.2.2.1 54 (τ.1 5))]) (by first | rfl | rw [hGn]) ?_
          have hroot := pv_root hw
          have hn354 : τ.1 5 < pvM σ346 54 := by rw [eσ346]; exact Nat.lt_succ_self _
          refine lv_dup hx hb dL_law_215 rfl ?_
          refine lv_iconst (v := 0) hx hb dL_law_216 (by decide) ?_
          refine lv_iconst (v := 1) hx hb dL_law_217 (by decide) ?_
          refine lv_iload hx hb dL_law_218 (lv_at hl 2 rfl) ?_
          refine lv_iconst (v := 5) hx hb dL_law_220 (by decide) ?_
          refine lv_ishr hx hb dL_law_221 ?_
          refine lv_iconst (v := 2) hx hb dL_law_222 (by decide) ?_
          obtain ⟨r355, e356, h⟩ := ob1_e h
          refine pcalli (va_runS (As := [.int (((r318 * 3) + r325) >>> (5 &&& 31)), .int 2]) (rest := [.int 1, .int 0, .ref (G.2.2.1 54 (τ.1 5)), .ref (G.2.2.1 54 (τ.1 5))]) ⟨hx, hb, hml, hown, hts⟩ (c_L_below (l := l) (G := G) (tys := tys) (σ := σ346) htys  e356) (va_cwS 2 hts (gSA wm219 wm220 wm216 wm221) rfl rfl rfl (by decide +kernel) ⟨(Nat.le_of_ble_eq_true rfl), (Nat.le_of_ble_eq_true rfl)⟩) (pv_preS hA hS hw hK [.int (((r318 * 3) + r325) >>> (5 &&& 31)), .int 2]) rfl rfl hl.1 rfl (lv_room (Nat.le_of_ble_eq_true rfl)) dL_law_223 ⟨(by show 1472 + 7 * (16 - (n98 + 1)) + 1 + 0 ≤ 600086; omega), (by show 115455 + 131 * (16 - (n98 + 1)) + 13 + 0 ≤ 7301442; omega)⟩) hS (fun r358 s359 H locs hp357 hw hS => ?_)
          obtain ⟨err355, esr355⟩ := hp357
          obtain rfl := esr355.symm
          obtain rfl := err355.symm
          refine W.widen (k := 1472 + 7 * (16 - (n98 + 1)) + 1) (n := 115455 + 131 * (16 - (n98 + 1)) + 13) (by omega) (by omega) ?_
          refine lv_iadd hx hb dL_law_226 ?_
          obtain ⟨g360, h⟩ := gd_e h
          obtain ⟨σ361, eσ361, h⟩ := nq_e h
          refine ppA hx hb hK htys hw hS 54 (τ.1 5) hn354 rfl (by decide) g360 dL_law_227 (fun H locs hw hS => ?_)
          rw [← eσ361] at hw
          have hcσ361 : σ361.1 = σ346.1 := by rw [eσ361]; exact rfl
          refine lv_dup hx hb dL_law_228 rfl ?_
          refine lv_iconst (v := 1) hx hb dL_law_229 (by decide) ?_
          refine lv_iload hx hb dL_law_230 (lv_at hl 2 rfl) ?_
          refine lv_iconst (v := 4) hx hb dL_law_232 (by decide) ?_
          refine lv_ishr hx hb dL_law_233 ?_
          refine lv_sipush (v := 150) hx hb dL_law_234 (by decide) ?_
          obtain ⟨r362, e363, h⟩ := ob1_e h
          refine pcalli (va_runS (As := [.int (((r318 * 3) + r325) >>> (4 &&& 31)), .int 150]) (rest := [.int 1, .ref (G.2.2.1 54 (τ.1 5)), .ref (G.2.2.1 54 (τ.1 5))]) ⟨hx, hb, hml, hown, hts⟩ (c_L_below (l := l) (G := G) (tys := tys) (σ := σ361) htys  e363) (va_cwS 2 hts (gSA wm219 wm220 wm216 wm221) rfl rfl rfl (by decide +kernel) ⟨(Nat.le_of_ble_eq_true rfl), (Nat.le_of_ble_eq_true rfl)⟩) (pv_preS hA hS hw hK [.int (((r318 * 3) + r325) >>> (4 &&& 31)), .int 150]) rfl rfl hl.1 rfl (lv_room (Nat.le_of_ble_eq_true rfl)) dL_law_237 ⟨(by show 1472 + 7 * (16 - (n98 + 1)) + 1 + 0 ≤ 600086; omega), (by show 115455 + 131 * (16 - (n98 + 1)) + 13 + 0 ≤ 7301442; omega)⟩) hS (fun r365 s366 H locs hp364 hw hS => ?_)
          obtain ⟨err362, esr362⟩ := hp364
          obtain rfl := esr362.symm
          obtain rfl := err362.symm
          refine W.widen (k := 1472 + 7 * (16 - (n98 + 1)) + 1) (n := 115455 + 131 * (16 - (n98 + 1)) + 13) (by omega) (by omega) ?_
          obtain ⟨g367, h⟩ := gd_e h
          obtain ⟨σ368, eσ368, h⟩ := nq_e h
          refine ppA hx hb hK htys hw hS 54 (τ.1 5) (lt_c hcσ361 54 hn354) rfl (by decide) g367 dL_law_240 (fun H locs hw hS => ?_)
          rw [← eσ368] at hw
          have hcσ368 : σ368.1 = σ346.1 := by rw [eσ368]; exact hcσ361
          refine lv_dup hx hb dL_law_241 rfl ?_
          refine lv_iconst (v := 2) hx hb dL_law_242 (by decide) ?_
          refine lv_iload hx hb dL_law_243 (lv_at hl 2 rfl) ?_
          refine lv_iconst (v := 4) hx hb dL_law_245 (by decide) ?_
          refine lv_ishr hx hb dL_law_246 ?_
          refine lv_bipush (v := 60) hx hb dL_law_247 (by decide) ?_
          obtain ⟨r369, e370, h⟩ := ob1_e h
          refine pcalli (va_runS (As := [.int (((r318 * 3) + r325) >>> (4 &&& 31)), .int 60]) (rest := [.int 2, .ref (G.2.2.1 54 (τ.1 5)), .ref (G.2.2.1 54 (τ.1 5))]) ⟨hx, hb, hml, hown, hts⟩ (c_L_below (l := l) (G := G) (tys := tys) (σ := σ368) htys  e370) (va_cwS 2 hts (gSA wm219 wm220 wm216 wm221) rfl rfl rfl (by decide +kernel) ⟨(Nat.le_of_ble_eq_true rfl), (Nat.le_of_ble_eq_true rfl)⟩) (pv_preS hA hS hw hK [.int (((r318 * 3) + r325) >>> (4 &&& 31)), .int 60]) rfl rfl hl.1 rfl (lv_room (Nat.le_of_ble_eq_true rfl)) dL_law_249 ⟨(by show 1472 + 7 * (16 - (n98 + 1)) + 1 + 0 ≤ 600086; omega), (by show 115455 + 131 * (16 - (n98 + 1)) + 13 + 0 ≤ 7301442; omega)⟩) hS (fun r372 s373 H locs hp371 hw hS => ?_)
          obtain ⟨err369, esr369⟩ := hp371
          obtain rfl := esr369.symm
          obtain rfl := err369.symm
          refine W.widen (k := 1472 + 7 * (16 - (n98 + 1)) + 1) (n := 115455 + 131 * (16 - (n98 + 1)) + 13) (by omega) (by omega) ?_
          obtain ⟨g374, h⟩ := gd_e h
          obtain ⟨σ375, eσ375, h⟩ := nq_e h
          refine ppA hx hb hK htys hw hS 54 (τ.1 5) (lt_c hcσ368 54 hn354) rfl (by decide) g374 dL_law_252 (fun H locs hw hS => ?_)
          rw [← eσ375] at hw
          have hcσ375 : σ375.1 = σ346.1 := by rw [eσ375]; exact hcσ368
          refine lv_dup hx hb dL_law_253 rfl ?_
          refine lv_iconst (v := 3) hx hb dL_law_254 (by decide) ?_
          refine lv_iload hx hb dL_law_255 (lv_at hl 2 rfl) ?_
          refine lv_iconst (v := 5) hx hb dL_law_257 (by decide) ?_
          refine lv_ishr hx hb dL_law_258 ?_
          refine lv_bipush (v := 12) hx hb dL_law_259 (by decide) ?_
          obtain ⟨r376, e377, h⟩ := ob1_e h
          refine pcalli (va_runS (As := [.int (((r318 * 3) + r325) >>> (5 &&& 31)), .int 12]) (rest := [.int 3, .ref (G.2.2.1 54 (τ.1 5)), .ref (G.2.2.1 54 (τ.1 5))]) ⟨hx, hb, hml, hown, hts⟩ (c_L_below (l := l) (G := G) (tys := tys) (σ := σ375) htys  e377) (va_cwS 2 hts (gSA wm219 wm220 wm216 wm221) rfl rfl rfl (by decide +kernel) ⟨(Nat.le_of_ble_eq_true rfl), (Nat.le_of_ble_eq_true rfl)⟩) (pv_preS hA hS hw hK [.int (((r318 * 3) + r325) >>> (5 &&& 31)), .int 12]) rfl rfl hl.1 rfl (lv_room (Nat.le_of_ble_eq_true rfl)) dL_law_261 ⟨(by show 1472 + 7 * (16 - (n98 + 1)) + 1 + 0 ≤ 600086; omega), (by show 115455 + 131 * (16 - (n98 + 1)) + 13 + 0 ≤ 7301442; omega)⟩) hS (fun r379 s380 H locs hp378 hw hS => ?_)
          obtain ⟨err376, esr376⟩ := hp378
          obtain rfl := esr376.symm
          obtain rfl := err376.symm
          refine W.widen (k := 1472 + 7 * (16 - (n98 + 1)) + 1) (n := 115455 + 131 * (16 - (n98 + 1)) + 13) (by omega) (by omega) ?_
          obtain ⟨g381, h⟩ := gd_e h
          obtain ⟨σ382, eσ382, h⟩ := nq_e h
          refine ppA hx hb hK htys hw hS 54 (τ.1 5) (lt_c hcσ375 54 hn354) rfl (by decide) g381 dL_law_264 (fun H locs hw hS => ?_)
          rw [← eσ382] at hw
          have hcσ382 : σ382.1 = σ346.1 := by rw [eσ382]; exact hcσ375
          refine lv_dup hx hb dL_law_265 rfl ?_
          refine lv_iconst (v := 4) hx hb dL_law_266 (by decide) ?_
          refine lv_iload hx hb dL_law_267 (lv_at hl 2 rfl) ?_
          refine lv_iconst (v := 5) hx hb dL_law_269 (by decide) ?_
          refine lv_ishr hx hb dL_law_270 ?_
          refine lv_bipush (v := 9) hx hb dL_law_271 (by decide) ?_
          obtain ⟨r383, e384, h⟩ := ob1_e h
          refine pcalli (va_runS (As := [.int (((r318 * 3) + r325) >>> (5 &&& 31)), .int 9]) (rest := [.int 4, .ref (G.2.2.1 54 (τ.1 5)), .ref (G.2.2.1 54 (τ.1 5))]) ⟨hx, hb, hml, hown, hts⟩ (c_L_below (l := l) (G := G) (tys := tys) (σ := σ382) htys  e384) (va_cwS 2 hts (gSA wm219 wm220 wm216 wm221) rfl rfl rfl (by decide +kernel) ⟨(Nat.le_of_ble_eq_true rfl), (Nat.le_of_ble_eq_true rfl)⟩) (pv_preS hA hS hw hK [.int (((r318 * 3) + r325) >>> (5 &&& 31)), .int 9]) rfl rfl hl.1 rfl (lv_room (Nat.le_of_ble_eq_true rfl)) dL_law_273 ⟨(by show 1472 + 7 * (16 - (n98 + 1)) + 1 + 0 ≤ 600086; omega), (by show 115455 + 131 * (16 - (n98 + 1)) + 13 + 0 ≤ 7301442; omega)⟩) hS (fun r386 s387 H locs hp385 hw hS => ?_)
          obtain ⟨err383, esr383⟩ := hp385
          obtain rfl := esr383.symm
          obtain rfl := err383.symm
          refine W.widen (k := 1472 + 7 * (16 - (n98 + 1)) + 1) (n := 115455 + 131 * (16 - (n98 + 1)) + 13) (by omega) (by omega) ?_
          obtain ⟨g388, h⟩ := gd_e h
          obtain ⟨σ389, eσ389, h⟩ := nq_e h
          refine ppA hx hb hK htys hw hS 54 (τ.1 5) (lt_c hcσ382 54 hn354) rfl (by decide) g388 dL_law_276 (fun H locs hw hS => ?_)
          rw [← eσ389] at hw
          have hcσ389 : σ389.1 = σ346.1 := by rw [eσ389]; exact hcσ382
          refine lv_dup hx hb dL_law_277 rfl ?_
          refine lv_iconst (v := 5) hx hb dL_law_278 (by decide) ?_
          refine lv_iload hx hb dL_law_279 (lv_at hl 2 rfl) ?_
          refine lv_bipush (v := 6) hx hb dL_law_281 (by decide) ?_
          refine lv_ishr hx hb dL_law_283 ?_
          refine lv_iconst (v := 5) hx hb dL_law_284 (by decide) ?_
          obtain ⟨r390, e391, h⟩ := ob1_e h
          refine pcalli (va_runS (As := [.int (((r318 * 3) + r325) >>> (6 &&& 31)), .int 5]) (rest := [.int 5, .ref (G.2.2.1 54 (τ.1 5)), .ref (G.2.2.1 54 (τ.1 5))]) ⟨hx, hb, hml, hown, hts⟩ (c_L_below (l := l) (G := G) (tys := tys) (σ := σ389) htys  e391) (va_cwS 2 hts (gSA wm219 wm220 wm216 wm221) rfl rfl rfl (by decide +kernel) ⟨(Nat.le_of_ble_eq_true rfl), (Nat.le_of_ble_eq_true rfl)⟩) (pv_preS hA hS hw hK [.int (((r318 * 3) + r325) >>> (6 &&& 31)), .int 5]) rfl rfl hl.1 rfl (lv_room (Nat.le_of_ble_eq_true rfl)) dL_law_285 ⟨(by show 1472 + 7 * (16 - (n98 + 1)) + 1 + 0 ≤ 600086; omega), (by show 115455 + 131 * (16 - (n98 + 1)) + 13 + 0 ≤ 7301442; omega)⟩) hS (fun r393 s394 H locs hp392 hw hS => ?_)
          obtain ⟨err390, esr390⟩ := hp392
          obtain rfl := esr390.symm
          obtain rfl := err390.symm
          refine W.widen (k := 1472 + 7 * (16 - (n98 + 1)) + 1) (n := 115455 + 131 * (16 - (n98 + 1)) + 13) (by omega) (by omega) ?_
          obtain ⟨g395, h⟩ := gd_e h
          obtain ⟨σ396, eσ396, h⟩ := nq_e h
          refine ppA hx hb hK htys hw hS 54 (τ.1 5) (lt_c hcσ389 54 hn354) rfl (by decide) g395 dL_law_288 (fun H locs hw hS => ?_)
          rw [← eσ396] at hw
          have hcσ396 : σ396.1 = σ346.1 := by rw [eσ396]; exact hcσ389
          refine lv_dup hx hb dL_law_289 rfl ?_
          refine lv_bipush (v := 6) hx hb dL_law_290 (by decide) ?_
          refine lv_iload hx hb dL_law_292 (lv_at hl 2 rfl) ?_
          refine lv_iconst (v := 4) hx hb dL_law_294 (by decide) ?_
          refine lv_ishr hx hb dL_law_295 ?_
          refine lv_iconst (v := 3) hx hb dL_law_296 (by decide) ?_
          obtain ⟨r397, e398, h⟩ := ob1_e h
          refine pcalli (va_runS (As := [.int (((r318 * 3) + r325) >>> (4 &&& 31)), .int 3]) (rest := [.int 6, .ref (G.2.2.1 54 (τ.1 5)), .ref (G.2.2.1 54 (τ.1 5))]) ⟨hx, hb, hml, hown, hts⟩ (c_L_below (l := l) (G := G) (tys := tys) (σ := σ396) htys  e398) (va_cwS 2 hts (gSA wm219 wm220 wm216 wm221) rfl rfl rfl (by decide +kernel) ⟨(Nat.le_of_ble_eq_true rfl), (Nat.le_of_ble_eq_true rfl)⟩) (pv_preS hA hS hw hK [.int (((r318 * 3) + r325) >>> (4 &&& 31)), .int 3]) rfl rfl hl.1 rfl (lv_room (Nat.le_of_ble_eq_true rfl)) dL_law_297 ⟨(by show 1472 + 7 * (16 - (n98 + 1)) + 1 + 0 ≤ 600086; omega), (by show 115455 + 131 * (16 - (n98 + 1)) + 13 + 0 ≤ 7301442; omega)⟩) hS (fun r400 s401 H locs hp399 hw hS => ?_)
          obtain ⟨err397, esr397⟩ := hp399
          obtain rfl := esr397.symm
          obtain rfl := err397.symm
          refine W.widen (k := 1472 + 7 * (16 - (n98 + 1)) + 1) (n := 115455 + 131 * (16 - (n98 + 1)) + 13) (by omega) (by omega) ?_
          obtain ⟨g402, h⟩ := gd_e h
          obtain ⟨σ403, eσ403, h⟩ := nq_e h
          refine ppA hx hb hK htys hw hS 54 (τ.1 5) (lt_c hcσ396 54 hn354) rfl (by decide) g402 dL_law_300 (fun H locs hw hS => ?_)
          rw [← eσ403] at hw
          have hcσ403 : σ403.1 = σ346.1 := by rw [eσ403]; exact hcσ396
          refine lv_dup hx hb dL_law_301 rfl ?_
          refine lv_bipush (v := 7) hx hb dL_law_302 (by decide) ?_
          refine lv_iload hx hb dL_law_304 (lv_at hl 2 rfl) ?_
          refine lv_iconst (v := 4) hx hb dL_law_306 (by decide) ?_
          refine lv_ishr hx hb dL_law_307 ?_
          refine lv_iconst (v := 4) hx hb dL_law_308 (by decide) ?_
          obtain ⟨r404, e405, h⟩ := ob1_e h
          refine pcalli (va_runS (As := [.int (((r318 * 3) + r325) >>> (4 &&& 31)), .int 4]) (rest := [.int 7, .ref (G.2.2.1 54 (τ.1 5)), .ref (G.2.2.1 54 (τ.1 5))]) ⟨hx, hb, hml, hown, hts⟩ (c_L_below (l := l) (G := G) (tys := tys) (σ := σ403) htys  e405) (va_cwS 2 hts (gSA wm219 wm220 wm216 wm221) rfl rfl rfl (by decide +kernel) ⟨(Nat.le_of_ble_eq_true rfl), (Nat.le_of_ble_eq_true rfl)⟩) (pv_preS hA hS hw hK [.int (((r318 * 3) + r325) >>> (4 &&& 31)), .int 4]) rfl rfl hl.1 rfl (lv_room (Nat.le_of_ble_eq_true rfl)) dL_law_309 ⟨(by show 1472 + 7 * (16 - (n98 + 1)) + 1 + 0 ≤ 600086; omega), (by show 115455 + 131 * (16 - (n98 + 1)) + 13 + 0 ≤ 7301442; omega)⟩) hS (fun r407 s408 H locs hp406 hw hS => ?_)
          obtain ⟨err404, esr404⟩ := hp406
          obtain rfl := esr404.symm
          obtain rfl := err404.symm
          refine W.widen (k := 1472 + 7 * (16 - (n98 + 1)) + 1) (n := 115455 + 131 * (16 - (n98 + 1)) + 13) (by omega) (by omega) ?_
          obtain ⟨g409, h⟩ := gd_e h
          obtain ⟨σ410, eσ410, h⟩ := nq_e h
          refine ppA hx hb hK htys hw hS 54 (τ.1 5) (lt_c hcσ403 54 hn354) rfl (by decide) g409 dL_law_312 (fun H locs hw hS => ?_)
          rw [← eσ410] at hw
          have hcσ410 : σ410.1 = σ346.1 := by rw [eσ410]; exact hcσ403
          refine lv_dup hx hb dL_law_313 rfl ?_
          refine lv_bipush (v := 8) hx hb dL_law_314 (by decide) ?_
          refine lv_iconst (v := 0) hx hb dL_law_316 (by decide) ?_
          obtain ⟨g411, h⟩ := gd_e h
          obtain ⟨σ412, eσ412, h⟩ := nq_e h
          refine ppA hx hb hK htys hw hS 54 (τ.1 5) (lt_c hcσ410 54 hn354) rfl (by decide) g411 dL_law_317 (fun H locs hw hS => ?_)
          rw [← eσ412] at hw
          have hcσ412 : σ412.1 = σ346.1 := by rw [eσ412]; exact hcσ410
          refine lv_dup hx hb dL_law_318 rfl ?_
          refine lv_bipush (v := 9) hx hb dL_law_319 (by decide) ?_
          refine lv_iconst (v := 1) hx hb dL_law_321 (by decide) ?_
          refine lv_iload hx hb dL_law_322 (lv_at hl 2 rfl) ?_
          refine lv_iconst (v := 5) hx hb dL_law_324 (by decide) ?_
          refine lv_ishr hx hb dL_law_325 ?_
          refine lv_bipush (v := 12) hx hb dL_law_326 (by decide) ?_
          obtain ⟨r413, e414, h⟩ := ob1_e h
          refine pcalli (va_runS (As := [.int (((r318 * 3) + r325) >>> (5 &&& 31)), .int 12]) (rest := [.int 1, .int 9, .ref (G.2.2.1 54 (τ.1 5)), .ref (G.2.2.1 54 (τ.1 5))]) ⟨hx, hb, hml, hown, hts⟩ (c_L_below (l := l) (G := G) (tys := tys) (σ := σ412) htys  e414) (va_cwS 2 hts (gSA wm219 wm220 wm216 wm221) rfl rfl rfl (by decide +kernel) ⟨(Nat.le_of_ble_eq_true rfl), (Nat.le_of_ble_eq_true rfl)⟩) (pv_preS hA hS hw hK [.int (((r318 * 3) + r325) >>> (5 &&& 31)), .int 12]) rfl rfl hl.1 rfl (lv_room (Nat.le_of_ble_eq_true rfl)) dL_law_328 ⟨(by show 1472 + 7 * (16 - (n98 + 1)) + 1 + 0 ≤ 600086; omega), (by show 115455 + 131 * (16 - (n98 + 1)) + 13 + 0 ≤ 7301442; omega)⟩) hS (fun r416 s417 H locs hp415 hw hS => ?_)
          obtain ⟨err413, esr413⟩ := hp415
          obtain rfl := esr413.symm
          obtain rfl := err413.symm
          refine W.widen (k := 1472 + 7 * (16 - (n98 + 1)) + 1) (n := 115455 + 131 * (16 - (n98 + 1)) + 13) (by omega) (by omega) ?_
          refine lv_iadd hx hb dL_law_331 ?_
          obtain ⟨g418, h⟩ := gd_e h
          obtain ⟨σ419, eσ419, h⟩ := nq_e h
          refine ppA hx hb hK htys hw hS 54 (τ.1 5) (lt_c hcσ412 54 hn354) rfl (by decide) g418 dL_law_332 (fun H locs hw hS => ?_)
          rw [← eσ419] at hw
          have hcσ419 : σ419.1 = σ346.1 := by rw [eσ419]; exact hcσ412
          refine lv_dup hx hb dL_law_333 rfl ?_
          refine lv_bipush (v := 10) hx hb dL_law_334 (by decide) ?_
          refine lv_iload hx hb dL_law_336 (lv_at hl 2 rfl) ?_
          refine lv_iconst (v := 4) hx hb dL_law_338 (by decide) ?_
          refine lv_ishr hx hb dL_law_339 ?_
          refine lv_iconst (v := 3) hx hb dL_law_340 (by decide) ?_
          obtain ⟨r420, e421, h⟩ := ob1_e h
          refine pcalli (va_runS (As := [.int (((r318 * 3) + r325) >>> (4 &&& 31)), .int 3]) (rest := [.int 10, .ref (G.2.2.1 54 (τ.1 5)), .ref (G.2.2.1 54 (τ.1 5))]) ⟨hx, hb, hml, hown, hts⟩ (c_L_below (l := l) (G := G) (tys := tys) (σ := σ419) htys  e421) (va_cwS 2 hts (gSA wm219 wm220 wm216 wm221) rfl rfl rfl (by decide +kernel) ⟨(Nat.le_of_ble_eq_true rfl), (Nat.le_of_ble_eq_true rfl)⟩) (pv_preS hA hS hw hK [.int (((r318 * 3) + r325) >>> (4 &&& 31)), .int 3]) rfl rfl hl.1 rfl (lv_room (Nat.le_of_ble_eq_true rfl)) dL_law_341 ⟨(by show 1472 + 7 * (16 - (n98 + 1)) + 1 + 0 ≤ 600086; omega), (by show 115455 + 131 * (16 - (n98 + 1)) + 13 + 0 ≤ 7301442; omega)⟩) hS (fun r423 s424 H locs hp422 hw hS => ?_)
          obtain ⟨err420, esr420⟩ := hp422
          obtain rfl := esr420.symm
          obtain rfl := err420.symm
          refine W.widen (k := 1472 + 7 * (16 - (n98 + 1)) + 1) (n := 115455 + 131 * (16 - (n98 + 1)) + 13) (by omega) (by omega) ?_
          obtain ⟨g425, h⟩ := gd_e h
          obtain ⟨σ426, eσ426, h⟩ := nq_e h
          refine ppA hx hb hK htys hw hS 54 (τ.1 5) (lt_c hcσ419 54 hn354) rfl (by decide) g425 dL_law_344 (fun H locs hw hS => ?_)
          rw [← eσ426] at hw
          have hcσ426 : σ426.1 = σ346.1 := by rw [eσ426]; exact hcσ419
          refine lv_dup hx hb dL_law_345 rfl ?_
          refine lv_bipush (v := 11) hx hb dL_law_346 (by decide) ?_
          refine lv_iload hx hb dL_law_348 (lv_at hl 2 rfl) ?_
          refine lv_iconst (v := 5) hx hb dL_law_350 (by decide) ?_
          refine lv_ishr hx hb dL_law_351 ?_
          refine lv_iconst (v := 2) hx hb dL_law_352 (by decide) ?_
          obtain ⟨r427, e428, h⟩ := ob1_e h
          refine pcalli (va_runS (As := [.int (((r318 * 3) + r325) >>> (5 &&& 31)), .int 2]) (rest := [.int 11, .ref (G.2.2.1 54 (τ.1 5)), .ref (G.2.2.1 54 (τ.1 5))]) ⟨hx, hb, hml, hown, hts⟩ (c_L_below (l := l) (G := G) (tys := tys) (σ := σ426) htys  e428) (va_cwS 2 hts (gSA wm219 wm220 wm216 wm221) rfl rfl rfl (by decide +kernel) ⟨(Nat.le_of_ble_eq_true rfl), (Nat.le_of_ble_eq_true rfl)⟩) (pv_preS hA hS hw hK [.int (((r318 * 3) + r325) >>> (5 &&& 31)), .int 2]) rfl rfl hl.1 rfl (lv_room (Nat.le_of_ble_eq_true rfl)) dL_law_353 ⟨(by show 1472 + 7 * (16 - (n98 + 1)) + 1 + 0 ≤ 600086; omega), (by show 115455 + 131 * (16 - (n98 + 1)) + 13 + 0 ≤ 7301442; omega)⟩) hS (fun r430 s431 H locs hp429 hw hS => ?_)
          obtain ⟨err427, esr427⟩ := hp429
          obtain rfl := esr427.symm
          obtain rfl := err427.symm
          refine W.widen (k := 1472 + 7 * (16 - (n98 + 1)) + 1) (n := 115455 + 131 * (16 - (n98 + 1)) + 13) (by omega) (by omega) ?_
          obtain ⟨g432, h⟩ := gd_e h
          obtain ⟨σ433, eσ433, h⟩ := nq_e h
          refine ppA hx hb hK htys hw hS 54 (τ.1 5) (lt_c hcσ426 54 hn354) rfl (by decide) g432 dL_law_356 (fun H locs hw hS => ?_)
          rw [← eσ433] at hw
          have hcσ433 : σ433.1 = σ346.1 := by rw [eσ433]; exact hcσ426
          refine lv_dup hx hb dL_law_357 rfl ?_
          refine lv_bipush (v := 12) hx hb dL_law_358 (by decide) ?_
          refine lv_iload hx hb dL_law_360 (lv_at hl 2 rfl) ?_
          refine lv_iconst (v := 4) hx hb dL_law_362 (by decide) ?_
          refine lv_ishr hx hb dL_law_363 ?_
          refine lv_bipush (v := 61) hx hb dL_law_364 (by decide) ?_
          obtain ⟨r434, e435, h⟩ := ob1_e h
          refine pcalli (va_runS (As := [.int (((r318 * 3) + r325) >>> (4 &&& 31)), .int 61]) (rest := [.int 12, .ref (G.2.2.1 54 (τ.1 5)), .ref (G.2.2.1 54 (τ.1 5))]) ⟨hx, hb, hml, hown, hts⟩ (c_L_below (l := l) (G := G) (tys := tys) (σ := σ433) htys  e435) (va_cwS 2 hts (gSA wm219 wm220 wm216 wm221) rfl rfl rfl (by decide +kernel) ⟨(Nat.le_of_ble_eq_true rfl), (Nat.le_of_ble_eq_true rfl)⟩) (pv_preS hA hS hw hK [.int (((r318 * 3) + r325) >>> (4 &&& 31)), .int 61]) rfl rfl hl.1 rfl (lv_room (Nat.le_of_ble_eq_true rfl)) dL_law_366 ⟨(by show 1472 + 7 * (16 - (n98 + 1)) + 1 + 0 ≤ 600086; omega), (by show 115455 + 131 * (16 - (n98 + 1)) + 13 + 0 ≤ 7301442; omega)⟩) hS (fun r437 s438 H locs hp436 hw hS => ?_)
          obtain ⟨err434, esr434⟩ := hp436
          obtain rfl := esr434.symm
          obtain rfl := err434.symm
          refine W.widen (k := 1472 + 7 * (16 - (n98 + 1)) + 1) (n := 115455 + 131 * (16 - (n98 + 1)) + 13) (by omega) (by omega) ?_
          refine lv_bipush (v := 30) hx hb dL_law_369 (by decide) ?_
          refine lv_isub hx hb dL_law_371 ?_
          obtain ⟨g439, h⟩ := gd_e h
          obtain ⟨σ440, eσ440, h⟩ := nq_e h
          refine ppA hx hb hK htys hw hS 54 (τ.1 5) (lt_c hcσ433 54 hn354) rfl (by decide) g439 dL_law_372 (fun H locs hw hS => ?_)
          rw [← eσ440] at hw
          have hcσ440 : σ440.1 = σ346.1 := by rw [eσ440]; exact hcσ433
          refine lv_astore (lv' := [(9, .ref (G.2.2.1 54 (τ.1 5))), (8, .int (τ.2.2.2.1 53 ub4 r340.toNatClampNeg)), (7, .int r331), (6, .int ((r318 * 3) + r325)), (0, .ref (G.2.2.2.1.1 4)), (1, .ref (G.2.2.1 9 0)), (2, .int xb2), (3, .ref (G.2.2.1 51 ub3)), (4, .ref (G.2.2.1 53 ub4)), (5, .int xb5)]) hx hb dL_law_373 hl (by decide) rfl (fun ls hl => ?_)
          refine lv_aload hx hb dL_law_375 (lv_at hl 0 rfl) ?_
          refine lv_iload hx hb dL_law_377 (lv_at hl 1 rfl) ?_
          obtain ⟨g441, h⟩ := gd_e h
          refine pgA hx hb hK htys hw 54 (τ.1 5) (lt_c hcσ440 54 hn354) rfl (by decide) g441 dL_law_379 ?_
          refine lv_istore (lv' := [(10, .int (σ440.2.2.2.1 54 (τ.1 5) (τ.2.2.2.1 53 ub4 r340.toNatClampNeg).toNatClampNeg)), (9, .ref (G.2.2.1 54 (τ.1 5))), (8, .int (τ.2.2.2.1 53 ub4 r340.toNatClampNeg)), (7, .int r331), (6, .int ((r318 * 3) + r325)), (0, .ref (G.2.2.2.1.1 4)), (1, .ref (G.2.2.1 9 0)), (2, .int xb2), (3, .ref (G.2.2.1 51 ub3)), (4, .ref (G.2.2.1 53 ub4)), (5, .int xb5)]) hx hb dL_law_380 hl (by decide) rfl (fun ls hl => ?_)
          refine lv_iload hx hb dL_law_382 (lv_at hl 4 rfl) ?_
          refine lv_bipush (v := 6) hx hb dL_law_384 (by decide) ?_
          refine lv_ishr hx hb dL_law_386 ?_
          refine lv_iconst (v := 2) hx hb dL_law_387 (by decide) ?_
          obtain ⟨r442, e443, h⟩ := ob1_e h
          refine pcalli (va_runS (As := [.int (((r318 * 3) + r325) >>> (6 &&& 31)), .int 2]) (rest := []) ⟨hx, hb, hml, hown, hts⟩ (c_L_below (l := l) (G := G) (tys := tys) (σ := σ440) htys  e443) (va_cwS 2 hts (gSA wm219 wm220 wm216 wm221) rfl rfl rfl (by decide +kernel) ⟨(Nat.le_of_ble_eq_true rfl), (Nat.le_of_ble_eq_true rfl)⟩) (pv_preS hA hS hw hK [.int (((r318 * 3) + r325) >>> (6 &&& 31)), .int 2]) rfl rfl hl.1 rfl (lv_room (Nat.le_of_ble_eq_true rfl)) dL_law_388 ⟨(by show 1472 + 7 * (16 - (n98 + 1)) + 1 + 0 ≤ 600086; omega), (by show 115455 + 131 * (16 - (n98 + 1)) + 13 + 0 ≤ 7301442; omega)⟩) hS (fun r445 s446 H locs hp444 hw hS => ?_)
          obtain ⟨err442, esr442⟩ := hp444
          obtain rfl := esr442.symm
          obtain rfl := err442.symm
          refine W.widen (k := 1472 + 7 * (16 - (n98 + 1)) + 1) (n := 115455 + 131 * (16 - (n98 + 1)) + 13) (by omega) (by omega) ?_
          refine lv_if_ne (tgt := 408) hx hb dL_law_391 (by decide) (fun c447 => ?_) (fun c447 => ?_)
          · skip
            replace h := ite_n c447 h
            refine lv_aload_n hx hb dL_law_408 rfl (lv_at hl 6 rfl) ?_
            refine lv_iload hx hb dL_law_409 (lv_at hl 2 rfl) ?_
            refine lv_iload hx hb dL_law_411 (lv_at hl 0 rfl) ?_
            refine lv_iload hx hb dL_law_413 (lv_at hl 4 rfl) ?_
            refine lv_bipush (v := 7) hx hb dL_law_415 (by decide) ?_
            refine lv_ishr hx hb dL_law_417 ?_
            refine lv_iconst (v := 4) hx hb dL_law_418 (by decide) ?_
            obtain ⟨r448, e449, h⟩ := ob1_e h
            refine pcalli (va_runS (As := [.int (((r318 * 3) + r325) >>> (7 &&& 31)), .int 4]) (rest := [.int (σ440.2.2.2.1 54 (τ.1 5) (τ.2.2.2.1 53 ub4 r340.toNatClampNeg).toNatClampNeg), .int (τ.2.2.2.1 53 ub4 r340.toNatClampNeg), .ref (G.2.2.1 9 0)]) ⟨hx, hb, hml, hown, hts⟩ (c_L_below (l := l) (G := G) (tys := tys) (σ := σ440) htys  e449) (va_cwS 2 hts (gSA wm219 wm220 wm216 wm221) rfl rfl rfl (by decide +kernel) ⟨(Nat.le_of_ble_eq_true rfl), (Nat.le_of_ble_eq_true rfl)⟩) (pv_preS hA hS hw hK [.int (((r318 * 3) + r325) >>> (7 &&& 31)), .int 4]) rfl rfl hl.1 rfl (lv_room (Nat.le_of_ble_eq_true rfl)) dL_law_419 ⟨(by show 1472 + 7 * (16 - (n98 + 1)) + 1 + 0 ≤ 600086; omega), (by show 115455 + 131 * (16 - (n98 + 1)) + 13 + 0 ≤ 7301442; omega)⟩) hS (fun r451 s452 H locs hp450 hw hS => ?_)
            obtain ⟨err448, esr448⟩ := hp450
            obtain rfl := esr448.symm
            obtain rfl := err448.symm
            refine W.widen (k := 1472 + 7 * (16 - (n98 + 1)) + 1) (n := 115455 + 131 * (16 - (n98 + 1)) + 13) (by omega) (by omega) ?_
            refine lv_if_ne (tgt := 429) hx hb dL_law_422 (by decide) (fun c453 => ?_) (fun c453 => ?_)
            · skip
              replace h := ite_n c453 h
              refine lv_iconst (v := 0) hx hb dL_law_429 (by decide) ?_
              refine W.widen (k := 1472 + 7 * (16 - (n98 + 1)) + 1) (n := 115455 + 131 * (16 - (n98 + 1)) + 13) (by omega) (by omega) ?_
              exact blk430 G σ440 xb2 ub3 ub4 xb5 ((r318 * 3) + r325) r331 0 (σ440.2.2.2.1 54 (τ.1 5) (τ.2.2.2.1 53 ub4 r340.toNatClampNeg).toNatClampNeg) (τ.2.2.2.1 53 ub4 r340.toNatClampNeg) hGe (pvGr_r hcσ440 hgr) (lt_c hcσ440 51 hf352) (lt_c hcσ440 53 hf353) h _ _ hw hS ls (lv_sub hl [5, 6, 7, 8, 9, 10, 4, 3] rfl)
            · skip
              replace h := ite_p c453 h
              refine lv_iconst (v := 1) hx hb dL_law_425 (by decide) ?_
              refine lv_goto (tgt := 430) hx hb dL_law_426 (by decide) ?_
              refine W.widen (k := 1472 + 7 * (16 - (n98 + 1)) + 1) (n := 115455 + 131 * (16 - (n98 + 1)) + 13) (by omega) (by omega) ?_
              exact blk430 G σ440 xb2 ub3 ub4 xb5 ((r318 * 3) + r325) r331 1 (σ440.2.2.2.1 54 (τ.1 5) (τ.2.2.2.1 53 ub4 r340.toNatClampNeg).toNatClampNeg) (τ.2.2.2.1 53 ub4 r340.toNatClampNeg) hGe (pvGr_r hcσ440 hgr) (lt_c hcσ440 51 hf352) (lt_c hcσ440 53 hf353) h _ _ hw hS ls (lv_sub hl [5, 6, 7, 8, 9, 10, 4, 3] rfl)
          · skip
            replace h := ite_p c447 h
            refine lv_aload_n hx hb dL_law_394 rfl (lv_at hl 6 rfl) ?_
            refine lv_iload hx hb dL_law_395 (lv_at hl 3 rfl) ?_
            refine lv_iload hx hb dL_law_397 (lv_at hl 2 rfl) ?_
            refine lv_iload hx hb dL_law_399 (lv_at hl 0 rfl) ?_
            obtain ⟨r454, σ455, e456, h⟩ := ob2_e h
            refine pcalli (va_runV (As := [.int r331, .int (τ.2.2.2.1 53 ub4 r340.toNatClampNeg), .int (σ440.2.2.2.1 54 (τ.1 5) (τ.2.2.2.1 53 ub4 r340.toNatClampNeg).toNatClampNeg)]) (rest := []) ⟨hx, hb, hml, hown, hts⟩ (c_X9_declare (l := l) (G := G) (tys := tys) (σ := σ440) htys  e456) (cwV 3 hts (gVA wm333 wm334 wm335 wm2 wm336) rfl rfl rfl (by decide +kernel) ⟨(Nat.le_of_ble_eq_true rfl), (Nat.le_of_ble_eq_true rfl)⟩) (pv_preV hA hS hw hK 9 0 Nat.one_pos (by decide) rfl [.int r331, .int (τ.2.2.2.1 53 ub4 r340.toNatClampNeg), .int (σ440.2.2.2.1 54 (τ.1 5) (τ.2.2.2.1 53 ub4 r340.toNatClampNeg).toNatClampNeg)]) rfl rfl hl.1 rfl (lv_room (Nat.le_of_ble_eq_true rfl)) dL_law_401 ⟨(by show 1472 + 7 * (16 - (n98 + 1)) + 1 + 0 ≤ 600086; omega), (by show 115455 + 131 * (16 - (n98 + 1)) + 13 + 0 ≤ 7301442; omega)⟩) hS (fun r458 s459 H locs hp457 hw hS => ?_)
            obtain ⟨err454, esσ455, hdσ455⟩ := hp457
            obtain rfl := esσ455.symm
            have hcσ455 : σ455.1 = σ346.1 := hdσ455.trans hcσ440
            obtain rfl := err454.symm
            refine W.widen (k := 1472 + 7 * (16 - (n98 + 1)) + 1) (n := 115455 + 131 * (16 - (n98 + 1)) + 13) (by omega) (by omega) ?_
            refine lv_pop hx hb dL_law_404 rfl ?_
            refine lv_goto (tgt := 479) hx hb dL_law_405 (by decide) ?_
            refine lv_iinc (v := xb5 + 1) (lv' := [(5, .int (xb5 + 1)), (10, .int (σ440.2.2.2.1 54 (τ.1 5) (τ.2.2.2.1 53 ub4 r340.toNatClampNeg).toNatClampNeg)), (9, .ref (G.2.2.1 54 (τ.1 5))), (8, .int (τ.2.2.2.1 53 ub4 r340.toNatClampNeg)), (7, .int r331), (6, .int ((r318 * 3) + r325)), (0, .ref (G.2.2.2.1.1 4)), (1, .ref (G.2.2.1 9 0)), (2, .int xb2), (3, .ref (G.2.2.1 51 ub3)), (4, .ref (G.2.2.1 53 ub4))]) hx hb dL_law_479 hl (k := 10) rfl (by rfl) (by decide) rfl (fun ls hl => ?_)
            refine lv_goto (tgt := 98) hx hb dL_law_482 (by decide) ?_
            refine W.widen (k := 1472 + 7 * (16 - n98) + 0) (n := 115455 + 131 * (16 - n98) + 0) (by omega) (by omega) ?_
            exact ih98 (by omega) G σ455 xb2 ub3 ub4 (xb5 + 1) hGe (pvGr_r hcσ455 hgr) (lt_c hcσ455 51 hf352) (lt_c hcσ455 53 hf353) h _ _ hw hS ls (lv_sub hl [6, 7, 8, 9, 10, 0] rfl)
        · skip
          replace h := ite_p c339 h
          refine lv_iload hx hb dL_law_143 (lv_at hl 1 rfl) ?_
          refine lv_iconst (v := 3) hx hb dL_law_145 (by decide) ?_
          refine lv_ishr hx hb dL_law_146 ?_
          refine lv_iconst (v := 5) hx hb dL_law_147 (by decide) ?_
          obtain ⟨r460, e461, h⟩ := ob1_e h
          refine pcalli (va_runS (As := [.int (((r318 * 3) + r325) >>> (3 &&& 31)), .int 5]) (rest := []) ⟨hx, hb, hml, hown, hts⟩ (c_L_below (l := l) (G := G) (tys := tys) (σ := τ) htys  e461) (va_cwS 2 hts (gSA wm219 wm220 wm216 wm221) rfl rfl rfl (by decide +kernel) ⟨(Nat.le_of_ble_eq_true rfl), (Nat.le_of_ble_eq_true rfl)⟩) (pv_preS hA hS hw hK [.int (((r318 * 3) + r325) >>> (3 &&& 31)), .int 5]) rfl rfl hl.1 rfl (lv_room (Nat.le_of_ble_eq_true rfl)) dL_law_148 ⟨(by show 1472 + 7 * (16 - (n98 + 1)) + 0 + 0 ≤ 600086; omega), (by show 115455 + 131 * (16 - (n98 + 1)) + 0 + 0 ≤ 7301442; omega)⟩) hS (fun r463 s464 H locs hp462 hw hS => ?_)
          obtain ⟨err460, esr460⟩ := hp462
          obtain rfl := esr460.symm
          obtain rfl := err460.symm
          refine W.widen (k := 1472 + 7 * (16 - (n98 + 1)) + 0) (n := 115455 + 131 * (16 - (n98 + 1)) + 0) (by omega) (by omega) ?_
          refine lv_istore (lv' := [(8, .int r460), (7, .int r331), (6, .int ((r318 * 3) + r325)), (0, .ref (G.2.2.2.1.1 4)), (1, .ref (G.2.2.1 9 0)), (2, .int xb2), (3, .ref (G.2.2.1 51 ub3)), (4, .ref (G.2.2.1 53 ub4)), (5, .int xb5)]) hx hb dL_law_151 hl (by decide) rfl (fun ls hl => ?_)
          refine W.widen (k := 1472 + 7 * (16 - (n98 + 1)) + 0) (n := 115455 + 131 * (16 - (n98 + 1)) + 0) (by omega) (by omega) ?_
          exact loop153 fu G τ xb2 ub3 ub4 xb5 ((r318 * 3) + r325) r331 r460 hGe hgr hub3 hub4 h _ _ hw hS ls (lv_sub hl [3, 4, 5, 6, 7, 8, 2, 1, 0] rfl)
  obtain ⟨G, eG⟩ : ∃ G2 : PvG, G2 = G0 := ⟨G0, rfl⟩
  have hGe : G = pvGa G0 G.2.2.1 := by subst eG; rfl
  have hgr : pvGr G0.2.2.1 G.2.2.1 σ σ := by subst eG; exact pvGr_refl
  rw [← eG] at hw hS hl
  have hA := pvGe_A hGe hA0
  have hK := pvGe_K hGe hK0
  have htys := pvGe_T hGe htys0
  have hroot := pv_root hw
  refine lv_iconst (v := 4) hx hb dL_law_8 (by decide) ?_
  refine lv_aload_n hx hb dL_law_9 rfl (lv_at hl 0 rfl) ?_
  refine lv_bipush (v := 15) hx hb dL_law_10 (by decide) ?_
  obtain ⟨g465, h⟩ := gd_e h
  obtain ⟨r466, e469, h⟩ := nq_e h
  refine pcalli (va_runS (As := [.ref (G.2.2.2.1.1 4), .int 15]) (rest := [.int 4]) ⟨hx, hb, hml, hown, hts⟩ (c_L_cell (l := l) (G := G) (tys := tys) htys (σ := σ) (k := (15 : Int32)) g465 (by rw [pvGe_sc hGe]; exact hlt0)) (va_cwS 2 hts (gSA wm214 wm215 wm216 wm217) rfl rfl rfl (by decide +kernel) ⟨(Nat.le_of_ble_eq_true rfl), (Nat.le_of_ble_eq_true rfl)⟩) (pv_preS hA hS hw hK [.ref (G.2.2.2.1.1 4), .int 15]) rfl rfl hl.1 rfl (lv_room (Nat.le_of_ble_eq_true rfl)) dL_law_12 ⟨(by show 194 + 0 ≤ 600086; omega), (by show 5959 + 0 ≤ 7301442; omega)⟩) hS (fun r467 s468 H locs hp hw hS => ?_)
  obtain ⟨e470, e471⟩ := hp
  obtain rfl := e471.symm
  rw [pvGe_sc hGe, ← hxs0, ← hnn0] at e470
  obtain rfl : r466 = r467 := e469.trans e470.symm
  refine W.widen (k := 194) (n := 5959) (by omega) (by omega) ?_
  refine lv_bipush (v := 12) hx hb dL_law_15 (by decide) ?_
  obtain ⟨r472, e473, h⟩ := ob1_e h
  refine pcalli (va_runS (As := [.int r466, .int 12]) (rest := [.int 4]) ⟨hx, hb, hml, hown, hts⟩ (c_L_below (l := l) (G := G) (tys := tys) (σ := σ) htys  e473) (va_cwS 2 hts (gSA wm219 wm220 wm216 wm221) rfl rfl rfl (by decide +kernel) ⟨(Nat.le_of_ble_eq_true rfl), (Nat.le_of_ble_eq_true rfl)⟩) (pv_preS hA hS hw hK [.int r466, .int 12]) rfl rfl hl.1 rfl (lv_room (Nat.le_of_ble_eq_true rfl)) dL_law_17 ⟨(by show 194 + 0 ≤ 600086; omega), (by show 5959 + 0 ≤ 7301442; omega)⟩) hS (fun r475 s476 H locs hp474 hw hS => ?_)
  obtain ⟨err472, esr472⟩ := hp474
  obtain rfl := esr472.symm
  obtain rfl := err472.symm
  refine W.widen (k := 194) (n := 5959) (by omega) (by omega) ?_
  refine lv_iadd hx hb dL_law_20 ?_
  refine lv_istore_n (lv' := [(2, .int (4 + r472)), (0, .ref (G.2.2.2.1.1 4)), (1, .ref (G.2.2.1 9 0))]) hx hb dL_law_21 rfl hl (by decide) rfl (fun ls hl => ?_)
  refine lv_aload_n hx hb dL_law_22 rfl (lv_at hl 2 rfl) ?_
  refine lv_aload_n hx hb dL_law_23 rfl (lv_at hl 1 rfl) ?_
  refine lv_iload_n hx hb dL_law_24 rfl (lv_at hl 0 rfl) ?_
  obtain ⟨r477, σ478, e479, h⟩ := ob2_e h
  refine pcallaq (G := G) (va_runS (As := [.ref (G.2.2.1 9 0), .ref (G.2.2.2.1.1 4), .int (4 + r472)]) (rest := []) ⟨hx, hb, hml, hown, hts⟩ (c_L_build (l := l) (G0 := G) (tys := tys) (σ := σ) htys (by rw [pvGe_sc hGe]; exact hxs0) (by rw [pvGe_sc hGe]; exact hnn0) (by rw [pvGe_sc hGe]; exact hlt0) e479) (va_cwS 3 hts (gSA wm223 wm224 wm216 wm225) rfl rfl rfl (by decide +kernel) ⟨(Nat.le_of_ble_eq_true rfl), (Nat.le_of_ble_eq_true rfl)⟩) (pv_preS2 hN hA hS hw hK [.ref (G.2.2.1 9 0), .ref (G.2.2.2.1.1 4), .int (4 + r472)]) rfl rfl hl.1 rfl (lv_room (Nat.le_of_ble_eq_true rfl)) dL_law_25 ⟨(by show 194 + 1277 ≤ 600086; omega), (by show 5959 + 109484 ≤ 7301442; omega)⟩) hS (fun r480 ad482 s481 H locs hp hw hS => ?_)
  obtain ⟨err477, esσ478, hg483, hzr477⟩ := hp
  have esσ478 : s481 = σ478 := esσ478
  obtain rfl := esσ478.symm
  subst err477
  refine W.widen (k := 1471) (n := 115443) (by omega) (by omega) ?_
  have ea484 : ad482 9 0 = G.2.2.1 9 0 := hg483.1.1 9 0 Nat.one_pos
  have hl : lv_has ls 17 [(2, .int (4 + r472)), (0, .ref (G.2.2.2.1.1 4)), (1, .ref (ad482 9 0))] := by rw [ea484]; exact hl
  refine W.eq (g2 := F0 m 28 ls [.ref (ad482 51 r477)]) (congrArg (F0 m 28 ls) (by first | rfl | rfl | (rfl; rfl))) ?_
  have hgr := pvGr_trans hgr hg483
  obtain ⟨G, hGn⟩ : ∃ G2 : PvG, G2 = pvGa G ad482 := ⟨_, rfl⟩
  rw [← hGn] at hw
  have hgr : pvGr G0.2.2.1 G.2.2.1 σ σ478 := by rw [hGn]; exact hgr
  have hGe := pvGe_next hGe hGn
  have hA : pvA0 G s s.heap := by rw [hGn]; exact hA
  have hK : va_K G.2.1 pvC tys s := by rw [hGn]; exact hK
  have htys : tys = pvT G := by rw [hGn]; exact htys
  have hS := pvGn_S hGn hS
  have hl : lv_has ls 17 [(2, .int (4 + r472)), (0, .ref (G.2.2.2.1.1 4)), (1, .ref (G.2.2.1 9 0))] := by rw [hGn]; exact hl
  refine W.eq (g2 := F0 m 28 ls [.ref (G.2.2.1 51 r477)]) (by first | rfl | rw [hGn]) ?_
  have hroot := pv_root hw
  have hn485 : r477 < pvM σ478 51 := hzr477
  refine lv_astore_n (lv' := [(3, .ref (G.2.2.1 51 r477)), (2, .int (4 + r472)), (0, .ref (G.2.2.2.1.1 4)), (1, .ref (G.2.2.1 9 0))]) hx hb dL_law_28 rfl hl (by decide) rfl (fun ls hl => ?_)
  refine lv_bipush (v := 12) hx hb dL_law_29 (by decide) ?_
  obtain ⟨σ486, eσ486, h⟩ := nq_e h
  refine pnewA hx hb (hts _ wm3) hA hK htys hw hS (t := 53) (N := 12) (by decide) (by decide) (by decide) (by show 1471 + 1 ≤ 600086; omega) (by show 115443 + 12 ≤ 7301442; omega) dL_law_31 (fun ad487 H hg488 hw hS => ?_)
  rw [← eσ486] at hw hg488
  refine W.widen (k := 1472) (n := 115455) (by omega) (by omega) ?_
  have ea489 : ad487 51 r477 = G.2.2.1 51 r477 := hg488.1.1 51 r477 hn485
  have ea490 : ad487 9 0 = G.2.2.1 9 0 := hg488.1.1 9 0 Nat.one_pos
  have hl : lv_has ls 17 [(3, .ref (ad487 51 r477)), (2, .int (4 + r472)), (0, .ref (G.2.2.2.1.1 4)), (1, .ref (ad487 9 0))] := by rw [ea489, ea490]; exact hl
  refine W.eq (g2 := F0 m 33 ls [.ref (ad487 53 (σ478.1 4))]) (congrArg (F0 m 33 ls) (by first | rfl | rfl | (rfl; rfl))) ?_
  have hf491 : r477 < pvM σ486 51 := hg488.2.1 51 r477 hn485
  have hgr := pvGr_trans hgr hg488
  obtain ⟨G, hGn⟩ : ∃ G2 : PvG, G2 = pvGa G ad487 := ⟨_, rfl⟩
  rw [← hGn] at hw
  have hgr : pvGr G0.2.2.1 G.2.2.1 σ σ486 := by rw [hGn]; exact hgr
  have hGe := pvGe_next hGe hGn
  have hA : pvA0 G s s.heap := by rw [hGn]; exact hA
  have hK : va_K G.2.1 pvC tys s := by rw [hGn]; exact hK
  have htys : tys = pvT G := by rw [hGn]; exact htys
  have hS := pvGn_S hGn hS
  have hl : lv_has ls 17 [(3, .ref (G.2.2.1 51 r477)), (2, .int (4 + r472)), (0, .ref (G.2.2.2.1.1 4)), (1, .ref (G.2.2.1 9 0))] := by rw [hGn]; exact hl
  refine W.eq (g2 := F0 m 33 ls [.ref (G.2.2.1 53 (σ478.1 4))]) (by first | rfl | rw [hGn]) ?_
  have hroot := pv_root hw
  have hn492 : σ478.1 4 < pvM σ486 53 := by rw [eσ486]; exact Nat.lt_succ_self _
  refine lv_dup hx hb dL_law_33 rfl ?_
  refine lv_iconst (v := 0) hx hb dL_law_34 (by decide) ?_
  refine lv_iconst (v := 0) hx hb dL_law_35 (by decide) ?_
  obtain ⟨g493, h⟩ := gd_e h
  obtain ⟨σ494, eσ494, h⟩ := nq_e h
  refine ppA hx hb hK htys hw hS 53 (σ478.1 4) hn492 rfl (by decide) g493 dL_law_36 (fun H locs hw hS => ?_)
  rw [← eσ494] at hw
  have hcσ494 : σ494.1 = σ486.1 := by rw [eσ494]; exact rfl
  refine lv_dup hx hb dL_law_37 rfl ?_
  refine lv_iconst (v := 1) hx hb dL_law_38 (by decide) ?_
  refine lv_iconst (v := 1) hx hb dL_law_39 (by decide) ?_
  obtain ⟨g495, h⟩ := gd_e h
  obtain ⟨σ496, eσ496, h⟩ := nq_e h
  refine ppA hx hb hK htys hw hS 53 (σ478.1 4) (lt_c hcσ494 53 hn492) rfl (by decide) g495 dL_law_40 (fun H locs hw hS => ?_)
  rw [← eσ496] at hw
  have hcσ496 : σ496.1 = σ486.1 := by rw [eσ496]; exact hcσ494
  refine lv_dup hx hb dL_law_41 rfl ?_
  refine lv_iconst (v := 2) hx hb dL_law_42 (by decide) ?_
  refine lv_iconst (v := 2) hx hb dL_law_43 (by decide) ?_
  obtain ⟨g497, h⟩ := gd_e h
  obtain ⟨σ498, eσ498, h⟩ := nq_e h
  refine ppA hx hb hK htys hw hS 53 (σ478.1 4) (lt_c hcσ496 53 hn492) rfl (by decide) g497 dL_law_44 (fun H locs hw hS => ?_)
  rw [← eσ498] at hw
  have hcσ498 : σ498.1 = σ486.1 := by rw [eσ498]; exact hcσ496
  refine lv_dup hx hb dL_law_45 rfl ?_
  refine lv_iconst (v := 3) hx hb dL_law_46 (by decide) ?_
  refine lv_iconst (v := 3) hx hb dL_law_47 (by decide) ?_
  obtain ⟨g499, h⟩ := gd_e h
  obtain ⟨σ500, eσ500, h⟩ := nq_e h
  refine ppA hx hb hK htys hw hS 53 (σ478.1 4) (lt_c hcσ498 53 hn492) rfl (by decide) g499 dL_law_48 (fun H locs hw hS => ?_)
  rw [← eσ500] at hw
  have hcσ500 : σ500.1 = σ486.1 := by rw [eσ500]; exact hcσ498
  refine lv_dup hx hb dL_law_49 rfl ?_
  refine lv_iconst (v := 4) hx hb dL_law_50 (by decide) ?_
  refine lv_iconst (v := 4) hx hb dL_law_51 (by decide) ?_
  obtain ⟨g501, h⟩ := gd_e h
  obtain ⟨σ502, eσ502, h⟩ := nq_e h
  refine ppA hx hb hK htys hw hS 53 (σ478.1 4) (lt_c hcσ500 53 hn492) rfl (by decide) g501 dL_law_52 (fun H locs hw hS => ?_)
  rw [← eσ502] at hw
  have hcσ502 : σ502.1 = σ486.1 := by rw [eσ502]; exact hcσ500
  refine lv_dup hx hb dL_law_53 rfl ?_
  refine lv_iconst (v := 5) hx hb dL_law_54 (by decide) ?_
  refine lv_iconst (v := 5) hx hb dL_law_55 (by decide) ?_
  obtain ⟨g503, h⟩ := gd_e h
  obtain ⟨σ504, eσ504, h⟩ := nq_e h
  refine ppA hx hb hK htys hw hS 53 (σ478.1 4) (lt_c hcσ502 53 hn492) rfl (by decide) g503 dL_law_56 (fun H locs hw hS => ?_)
  rw [← eσ504] at hw
  have hcσ504 : σ504.1 = σ486.1 := by rw [eσ504]; exact hcσ502
  refine lv_dup hx hb dL_law_57 rfl ?_
  refine lv_bipush (v := 6) hx hb dL_law_58 (by decide) ?_
  refine lv_bipush (v := 6) hx hb dL_law_60 (by decide) ?_
  obtain ⟨g505, h⟩ := gd_e h
  obtain ⟨σ506, eσ506, h⟩ := nq_e h
  refine ppA hx hb hK htys hw hS 53 (σ478.1 4) (lt_c hcσ504 53 hn492) rfl (by decide) g505 dL_law_62 (fun H locs hw hS => ?_)
  rw [← eσ506] at hw
  have hcσ506 : σ506.1 = σ486.1 := by rw [eσ506]; exact hcσ504
  refine lv_dup hx hb dL_law_63 rfl ?_
  refine lv_bipush (v := 7) hx hb dL_law_64 (by decide) ?_
  refine lv_bipush (v := 7) hx hb dL_law_66 (by decide) ?_
  obtain ⟨g507, h⟩ := gd_e h
  obtain ⟨σ508, eσ508, h⟩ := nq_e h
  refine ppA hx hb hK htys hw hS 53 (σ478.1 4) (lt_c hcσ506 53 hn492) rfl (by decide) g507 dL_law_68 (fun H locs hw hS => ?_)
  rw [← eσ508] at hw
  have hcσ508 : σ508.1 = σ486.1 := by rw [eσ508]; exact hcσ506
  refine lv_dup hx hb dL_law_69 rfl ?_
  refine lv_bipush (v := 8) hx hb dL_law_70 (by decide) ?_
  refine lv_bipush (v := 9) hx hb dL_law_72 (by decide) ?_
  obtain ⟨g509, h⟩ := gd_e h
  obtain ⟨σ510, eσ510, h⟩ := nq_e h
  refine ppA hx hb hK htys hw hS 53 (σ478.1 4) (lt_c hcσ508 53 hn492) rfl (by decide) g509 dL_law_74 (fun H locs hw hS => ?_)
  rw [← eσ510] at hw
  have hcσ510 : σ510.1 = σ486.1 := by rw [eσ510]; exact hcσ508
  refine lv_dup hx hb dL_law_75 rfl ?_
  refine lv_bipush (v := 9) hx hb dL_law_76 (by decide) ?_
  refine lv_bipush (v := 10) hx hb dL_law_78 (by decide) ?_
  obtain ⟨g511, h⟩ := gd_e h
  obtain ⟨σ512, eσ512, h⟩ := nq_e h
  refine ppA hx hb hK htys hw hS 53 (σ478.1 4) (lt_c hcσ510 53 hn492) rfl (by decide) g511 dL_law_80 (fun H locs hw hS => ?_)
  rw [← eσ512] at hw
  have hcσ512 : σ512.1 = σ486.1 := by rw [eσ512]; exact hcσ510
  refine lv_dup hx hb dL_law_81 rfl ?_
  refine lv_bipush (v := 10) hx hb dL_law_82 (by decide) ?_
  refine lv_bipush (v := 11) hx hb dL_law_84 (by decide) ?_
  obtain ⟨g513, h⟩ := gd_e h
  obtain ⟨σ514, eσ514, h⟩ := nq_e h
  refine ppA hx hb hK htys hw hS 53 (σ478.1 4) (lt_c hcσ512 53 hn492) rfl (by decide) g513 dL_law_86 (fun H locs hw hS => ?_)
  rw [← eσ514] at hw
  have hcσ514 : σ514.1 = σ486.1 := by rw [eσ514]; exact hcσ512
  refine lv_dup hx hb dL_law_87 rfl ?_
  refine lv_bipush (v := 11) hx hb dL_law_88 (by decide) ?_
  refine lv_bipush (v := 12) hx hb dL_law_90 (by decide) ?_
  obtain ⟨g515, h⟩ := gd_e h
  obtain ⟨σ516, eσ516, h⟩ := nq_e h
  refine ppA hx hb hK htys hw hS 53 (σ478.1 4) (lt_c hcσ514 53 hn492) rfl (by decide) g515 dL_law_92 (fun H locs hw hS => ?_)
  rw [← eσ516] at hw
  have hcσ516 : σ516.1 = σ486.1 := by rw [eσ516]; exact hcσ514
  refine lv_astore (lv' := [(4, .ref (G.2.2.1 53 (σ478.1 4))), (3, .ref (G.2.2.1 51 r477)), (2, .int (4 + r472)), (0, .ref (G.2.2.2.1.1 4)), (1, .ref (G.2.2.1 9 0))]) hx hb dL_law_93 hl (by decide) rfl (fun ls hl => ?_)
  refine lv_iconst (v := 0) hx hb dL_law_95 (by decide) ?_
  refine lv_istore (lv' := [(5, .int 0), (4, .ref (G.2.2.1 53 (σ478.1 4))), (3, .ref (G.2.2.1 51 r477)), (2, .int (4 + r472)), (0, .ref (G.2.2.2.1.1 4)), (1, .ref (G.2.2.1 9 0))]) hx hb dL_law_96 hl (by decide) rfl (fun ls hl => ?_)
  refine W.widen (k := 1472 + 7 * (16 - 16) + 0) (n := 115455 + 131 * (16 - 16) + 0) (by omega) (by omega) ?_
  exact loop98 16 (Nat.le_refl 16) G σ516 (4 + r472) r477 (σ478.1 4) 0 hGe (pvGr_r hcσ516 hgr) (lt_c hcσ516 51 hf491) (lt_c hcσ516 53 hn492) h _ _ hw hS ls (lv_sub hl [4, 5, 3, 2, 1, 0] rfl)
