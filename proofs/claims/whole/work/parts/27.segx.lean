theorem sg_X1_copyFrom {SL : Nat} {xs : Nat → Int32} {d : Nat} {p s q : Nat} {Q : Option Value → mm_H → Prop} {o : Nat} {a0 : Nat} {I : Nat → Nat → Int32} {J : Nat → Nat → Int64} (h_a0 : isC a0) (h_o : isC o) (k : Q none (hp p s q (fun i_ => if i_ = (o + 3) then va_cpy ((fun i_ => if i_ = (o + 2) then va_cpy ((fun i_ => if i_ = (o + 1) then va_cpy ((mm_u (mm_u (mm_u (mm_u (mm_u (mm_u I o 2 (I a0 2)) o 3 ((mm_u I o 2 (I a0 2)) a0 3)) o 4 ((mm_u (mm_u I o 2 (I a0 2)) o 3 ((mm_u I o 2 (I a0 2)) a0 3)) a0 4)) o 5 ((mm_u (mm_u (mm_u I o 2 (I a0 2)) o 3 ((mm_u I o 2 (I a0 2)) a0 3)) o 4 ((mm_u (mm_u I o 2 (I a0 2)) o 3 ((mm_u I o 2 (I a0 2)) a0 3)) a0 4)) a0 5)) o 9 ((mm_u (mm_u (mm_u (mm_u I o 2 (I a0 2)) o 3 ((mm_u I o 2 (I a0 2)) a0 3)) o 4 ((mm_u (mm_u I o 2 (I a0 2)) o 3 ((mm_u I o 2 (I a0 2)) a0 3)) a0 4)) o 5 ((mm_u (mm_u (mm_u I o 2 (I a0 2)) o 3 ((mm_u I o 2 (I a0 2)) a0 3)) o 4 ((mm_u (mm_u I o 2 (I a0 2)) o 3 ((mm_u I o 2 (I a0 2)) a0 3)) a0 4)) a0 5)) a0 9)) o 10 ((mm_u (mm_u (mm_u (mm_u (mm_u I o 2 (I a0 2)) o 3 ((mm_u I o 2 (I a0 2)) a0 3)) o 4 ((mm_u (mm_u I o 2 (I a0 2)) o 3 ((mm_u I o 2 (I a0 2)) a0 3)) a0 4)) o 5 ((mm_u (mm_u (mm_u I o 2 (I a0 2)) o 3 ((mm_u I o 2 (I a0 2)) a0 3)) o 4 ((mm_u (mm_u I o 2 (I a0 2)) o 3 ((mm_u I o 2 (I a0 2)) a0 3)) a0 4)) a0 5)) o 9 ((mm_u (mm_u (mm_u (mm_u I o 2 (I a0 2)) o 3 ((mm_u I o 2 (I a0 2)) a0 3)) o 4 ((mm_u (mm_u I o 2 (I a0 2)) o 3 ((mm_u I o 2 (I a0 2)) a0 3)) a0 4)) o 5 ((mm_u (mm_u (mm_u I o 2 (I a0 2)) o 3 ((mm_u I o 2 (I a0 2)) a0 3)) o 4 ((mm_u (mm_u I o 2 (I a0 2)) o 3 ((mm_u I o 2 (I a0 2)) a0 3)) a0 4)) a0 5)) a0 9)) a0 10)) (a0 + 1)) ((mm_u (mm_u (mm_u (mm_u (mm_u (mm_u I o 2 (I a0 2)) o 3 ((mm_u I o 2 (I a0 2)) a0 3)) o 4 ((mm_u (mm_u I o 2 (I a0 2)) o 3 ((mm_u I o 2 (I a0 2)) a0 3)) a0 4)) o 5 ((mm_u (mm_u (mm_u I o 2 (I a0 2)) o 3 ((mm_u I o 2 (I a0 2)) a0 3)) o 4 ((mm_u (mm_u I o 2 (I a0 2)) o 3 ((mm_u I o 2 (I a0 2)) a0 3)) a0 4)) a0 5)) o 9 ((mm_u (mm_u (mm_u (mm_u I o 2 (I a0 2)) o 3 ((mm_u I o 2 (I a0 2)) a0 3)) o 4 ((mm_u (mm_u I o 2 (I a0 2)) o 3 ((mm_u I o 2 (I a0 2)) a0 3)) a0 4)) o 5 ((mm_u (mm_u (mm_u I o 2 (I a0 2)) o 3 ((mm_u I o 2 (I a0 2)) a0 3)) o 4 ((mm_u (mm_u I o 2 (I a0 2)) o 3 ((mm_u I o 2 (I a0 2)) a0 3)) a0 4)) a0 5)) a0 9)) o 10 ((mm_u (mm_u (mm_u (mm_u (mm_u I o 2 (I a0 2)) o 3 ((mm_u I o 2 (I a0 2)) a0 3)) o 4 ((mm_u (mm_u I o 2 (I a0 2)) o 3 ((mm_u I o 2 (I a0 2)) a0 3)) a0 4)) o 5 ((mm_u (mm_u (mm_u I o 2 (I a0 2)) o 3 ((mm_u I o 2 (I a0 2)) a0 3)) o 4 ((mm_u (mm_u I o 2 (I a0 2)) o 3 ((mm_u I o 2 (I a0 2)) a0 3)) a0 4)) a0 5)) o 9 ((mm_u (mm_u (mm_u (mm_u I o 2 (I a0 2)) o 3 ((mm_u I o 2 (I a0 2)) a0 3)) o 4 ((mm_u (mm_u I o 2 (I a0 2)) o 3 ((mm_u I o 2 (I a0 2)) a0 3)) a0 4)) o 5 ((mm_u (mm_u (mm_u I o 2 (I a0 2)) o 3 ((mm_u I o 2 (I a0 2)) a0 3)) o 4 ((mm_u (mm_u I o 2 (I a0 2)) o 3 ((mm_u I o 2 (I a0 2)) a0 3)) a0 4)) a0 5)) a0 9)) a0 10)) (o + 1)) ((Int32.ofInt 0)).toNatClampNeg ((Int32.ofInt 0)).toNatClampNeg ((Int32.ofInt 60)).toNatClampNeg else (mm_u (mm_u (mm_u (mm_u (mm_u (mm_u I o 2 (I a0 2)) o 3 ((mm_u I o 2 (I a0 2)) a0 3)) o 4 ((mm_u (mm_u I o 2 (I a0 2)) o 3 ((mm_u I o 2 (I a0 2)) a0 3)) a0 4)) o 5 ((mm_u (mm_u (mm_u I o 2 (I a0 2)) o 3 ((mm_u I o 2 (I a0 2)) a0 3)) o 4 ((mm_u (mm_u I o 2 (I a0 2)) o 3 ((mm_u I o 2 (I a0 2)) a0 3)) a0 4)) a0 5)) o 9 ((mm_u (mm_u (mm_u (mm_u I o 2 (I a0 2)) o 3 ((mm_u I o 2 (I a0 2)) a0 3)) o 4 ((mm_u (mm_u I o 2 (I a0 2)) o 3 ((mm_u I o 2 (I a0 2)) a0 3)) a0 4)) o 5 ((mm_u (mm_u (mm_u I o 2 (I a0 2)) o 3 ((mm_u I o 2 (I a0 2)) a0 3)) o 4 ((mm_u (mm_u I o 2 (I a0 2)) o 3 ((mm_u I o 2 (I a0 2)) a0 3)) a0 4)) a0 5)) a0 9)) o 10 ((mm_u (mm_u (mm_u (mm_u (mm_u I o 2 (I a0 2)) o 3 ((mm_u I o 2 (I a0 2)) a0 3)) o 4 ((mm_u (mm_u I o 2 (I a0 2)) o 3 ((mm_u I o 2 (I a0 2)) a0 3)) a0 4)) o 5 ((mm_u (mm_u (mm_u I o 2 (I a0 2)) o 3 ((mm_u I o 2 (I a0 2)) a0 3)) o 4 ((mm_u (mm_u I o 2 (I a0 2)) o 3 ((mm_u I o 2 (I a0 2)) a0 3)) a0 4)) a0 5)) o 9 ((mm_u (mm_u (mm_u (mm_u I o 2 (I a0 2)) o 3 ((mm_u I o 2 (I a0 2)) a0 3)) o 4 ((mm_u (mm_u I o 2 (I a0 2)) o 3 ((mm_u I o 2 (I a0 2)) a0 3)) a0 4)) o 5 ((mm_u (mm_u (mm_u I o 2 (I a0 2)) o 3 ((mm_u I o 2 (I a0 2)) a0 3)) o 4 ((mm_u (mm_u I o 2 (I a0 2)) o 3 ((mm_u I o 2 (I a0 2)) a0 3)) a0 4)) a0 5)) a0 9)) a0 10)) i_) (a0 + 2)) ((fun i_ => if i_ = (o + 1) then va_cpy ((mm_u (mm_u (mm_u (mm_u (mm_u (mm_u I o 2 (I a0 2)) o 3 ((mm_u I o 2 (I a0 2)) a0 3)) o 4 ((mm_u (mm_u I o 2 (I a0 2)) o 3 ((mm_u I o 2 (I a0 2)) a0 3)) a0 4)) o 5 ((mm_u (mm_u (mm_u I o 2 (I a0 2)) o 3 ((mm_u I o 2 (I a0 2)) a0 3)) o 4 ((mm_u (mm_u I o 2 (I a0 2)) o 3 ((mm_u I o 2 (I a0 2)) a0 3)) a0 4)) a0 5)) o 9 ((mm_u (mm_u (mm_u (mm_u I o 2 (I a0 2)) o 3 ((mm_u I o 2 (I a0 2)) a0 3)) o 4 ((mm_u (mm_u I o 2 (I a0 2)) o 3 ((mm_u I o 2 (I a0 2)) a0 3)) a0 4)) o 5 ((mm_u (mm_u (mm_u I o 2 (I a0 2)) o 3 ((mm_u I o 2 (I a0 2)) a0 3)) o 4 ((mm_u (mm_u I o 2 (I a0 2)) o 3 ((mm_u I o 2 (I a0 2)) a0 3)) a0 4)) a0 5)) a0 9)) o 10 ((mm_u (mm_u (mm_u (mm_u (mm_u I o 2 (I a0 2)) o 3 ((mm_u I o 2 (I a0 2)) a0 3)) o 4 ((mm_u (mm_u I o 2 (I a0 2)) o 3 ((mm_u I o 2 (I a0 2)) a0 3)) a0 4)) o 5 ((mm_u (mm_u (mm_u I o 2 (I a0 2)) o 3 ((mm_u I o 2 (I a0 2)) a0 3)) o 4 ((mm_u (mm_u I o 2 (I a0 2)) o 3 ((mm_u I o 2 (I a0 2)) a0 3)) a0 4)) a0 5)) o 9 ((mm_u (mm_u (mm_u (mm_u I o 2 (I a0 2)) o 3 ((mm_u I o 2 (I a0 2)) a0 3)) o 4 ((mm_u (mm_u I o 2 (I a0 2)) o 3 ((mm_u I o 2 (I a0 2)) a0 3)) a0 4)) o 5 ((mm_u (mm_u (mm_u I o 2 (I a0 2)) o 3 ((mm_u I o 2 (I a0 2)) a0 3)) o 4 ((mm_u (mm_u I o 2 (I a0 2)) o 3 ((mm_u I o 2 (I a0 2)) a0 3)) a0 4)) a0 5)) a0 9)) a0 10)) (a0 + 1)) ((mm_u (mm_u (mm_u (mm_u (mm_u (mm_u I o 2 (I a0 2)) o 3 ((mm_u I o 2 (I a0 2)) a0 3)) o 4 ((mm_u (mm_u I o 2 (I a0 2)) o 3 ((mm_u I o 2 (I a0 2)) a0 3)) a0 4)) o 5 ((mm_u (mm_u (mm_u I o 2 (I a0 2)) o 3 ((mm_u I o 2 (I a0 2)) a0 3)) o 4 ((mm_u (mm_u I o 2 (I a0 2)) o 3 ((mm_u I o 2 (I a0 2)) a0 3)) a0 4)) a0 5)) o 9 ((mm_u (mm_u (mm_u (mm_u I o 2 (I a0 2)) o 3 ((mm_u I o 2 (I a0 2)) a0 3)) o 4 ((mm_u (mm_u I o 2 (I a0 2)) o 3 ((mm_u I o 2 (I a0 2)) a0 3)) a0 4)) o 5 ((mm_u (mm_u (mm_u I o 2 (I a0 2)) o 3 ((mm_u I o 2 (I a0 2)) a0 3)) o 4 ((mm_u (mm_u I o 2 (I a0 2)) o 3 ((mm_u I o 2 (I a0 2)) a0 3)) a0 4)) a0 5)) a0 9)) o 10 ((mm_u (mm_u (mm_u (mm_u (mm_u I o 2 (I a0 2)) o 3 ((mm_u I o 2 (I a0 2)) a0 3)) o 4 ((mm_u (mm_u I o 2 (I a0 2)) o 3 ((mm_u I o 2 (I a0 2)) a0 3)) a0 4)) o 5 ((mm_u (mm_u (mm_u I o 2 (I a0 2)) o 3 ((mm_u I o 2 (I a0 2)) a0 3)) o 4 ((mm_u (mm_u I o 2 (I a0 2)) o 3 ((mm_u I o 2 (I a0 2)) a0 3)) a0 4)) a0 5)) o 9 ((mm_u (mm_u (mm_u (mm_u I o 2 (I a0 2)) o 3 ((mm_u I o 2 (I a0 2)) a0 3)) o 4 ((mm_u (mm_u I o 2 (I a0 2)) o 3 ((mm_u I o 2 (I a0 2)) a0 3)) a0 4)) o 5 ((mm_u (mm_u (mm_u I o 2 (I a0 2)) o 3 ((mm_u I o 2 (I a0 2)) a0 3)) o 4 ((mm_u (mm_u I o 2 (I a0 2)) o 3 ((mm_u I o 2 (I a0 2)) a0 3)) a0 4)) a0 5)) a0 9)) a0 10)) (o + 1)) ((Int32.ofInt 0)).toNatClampNeg ((Int32.ofInt 0)).toNatClampNeg ((Int32.ofInt 60)).toNatClampNeg else (mm_u (mm_u (mm_u (mm_u (mm_u (mm_u I o 2 (I a0 2)) o 3 ((mm_u I o 2 (I a0 2)) a0 3)) o 4 ((mm_u (mm_u I o 2 (I a0 2)) o 3 ((mm_u I o 2 (I a0 2)) a0 3)) a0 4)) o 5 ((mm_u (mm_u (mm_u I o 2 (I a0 2)) o 3 ((mm_u I o 2 (I a0 2)) a0 3)) o 4 ((mm_u (mm_u I o 2 (I a0 2)) o 3 ((mm_u I o 2 (I a0 2)) a0 3)) a0 4)) a0 5)) o 9 ((mm_u (mm_u (mm_u (mm_u I o 2 (I a0 2)) o 3 ((mm_u I o 2 (I a0 2)) a0 3)) o 4 ((mm_u (mm_u I o 2 (I a0 2)) o 3 ((mm_u I o 2 (I a0 2)) a0 3)) a0 4)) o 5 ((mm_u (mm_u (mm_u I o 2 (I a0 2)) o 3 ((mm_u I o 2 (I a0 2)) a0 3)) o 4 ((mm_u (mm_u I o 2 (I a0 2)) o 3 ((mm_u I o 2 (I a0 2)) a0 3)) a0 4)) a0 5)) a0 9)) o 10 ((mm_u (mm_u (mm_u (mm_u (mm_u I o 2 (I a0 2)) o 3 ((mm_u I o 2 (I a0 2)) a0 3)) o 4 ((mm_u (mm_u I o 2 (I a0 2)) o 3 ((mm_u I o 2 (I a0 2)) a0 3)) a0 4)) o 5 ((mm_u (mm_u (mm_u I o 2 (I a0 2)) o 3 ((mm_u I o 2 (I a0 2)) a0 3)) o 4 ((mm_u (mm_u I o 2 (I a0 2)) o 3 ((mm_u I o 2 (I a0 2)) a0 3)) a0 4)) a0 5)) o 9 ((mm_u (mm_u (mm_u (mm_u I o 2 (I a0 2)) o 3 ((mm_u I o 2 (I a0 2)) a0 3)) o 4 ((mm_u (mm_u I o 2 (I a0 2)) o 3 ((mm_u I o 2 (I a0 2)) a0 3)) a0 4)) o 5 ((mm_u (mm_u (mm_u I o 2 (I a0 2)) o 3 ((mm_u I o 2 (I a0 2)) a0 3)) o 4 ((mm_u (mm_u I o 2 (I a0 2)) o 3 ((mm_u I o 2 (I a0 2)) a0 3)) a0 4)) a0 5)) a0 9)) a0 10)) i_) (o + 2)) ((Int32.ofInt 0)).toNatClampNeg ((Int32.ofInt 0)).toNatClampNeg ((Int32.ofInt 60)).toNatClampNeg else (fun i_ => if i_ = (o + 1) then va_cpy ((mm_u (mm_u (mm_u (mm_u (mm_u (mm_u I o 2 (I a0 2)) o 3 ((mm_u I o 2 (I a0 2)) a0 3)) o 4 ((mm_u (mm_u I o 2 (I a0 2)) o 3 ((mm_u I o 2 (I a0 2)) a0 3)) a0 4)) o 5 ((mm_u (mm_u (mm_u I o 2 (I a0 2)) o 3 ((mm_u I o 2 (I a0 2)) a0 3)) o 4 ((mm_u (mm_u I o 2 (I a0 2)) o 3 ((mm_u I o 2 (I a0 2)) a0 3)) a0 4)) a0 5)) o 9 ((mm_u (mm_u (mm_u (mm_u I o 2 (I a0 2)) o 3 ((mm_u I o 2 (I a0 2)) a0 3)) o 4 ((mm_u (mm_u I o 2 (I a0 2)) o 3 ((mm_u I o 2 (I a0 2)) a0 3)) a0 4)) o 5 ((mm_u (mm_u (mm_u I o 2 (I a0 2)) o 3 ((mm_u I o 2 (I a0 2)) a0 3)) o 4 ((mm_u (mm_u I o 2 (I a0 2)) o 3 ((mm_u I o 2 (I a0 2)) a0 3)) a0 4)) a0 5)) a0 9)) o 10 ((mm_u (mm_u (mm_u (mm_u (mm_u I o 2 (I a0 2)) o 3 ((mm_u I o 2 (I a0 2)) a0 3)) o 4 ((mm_u (mm_u I o 2 (I a0 2)) o 3 ((mm_u I o 2 (I a0 2)) a0 3)) a0 4)) o 5 ((mm_u (mm_u (mm_u I o 2 (I a0 2)) o 3 ((mm_u I o 2 (I a0 2)) a0 3)) o 4 ((mm_u (mm_u I o 2 (I a0 2)) o 3 ((mm_u I o 2 (I a0 2)) a0 3)) a0 4)) a0 5)) o 9 ((mm_u (mm_u (mm_u (mm_u I o 2 (I a0 2)) o 3 ((mm_u I o 2 (I a0 2)) a0 3)) o 4 ((mm_u (mm_u I o 2 (I a0 2)) o 3 ((mm_u I o 2 (I a0 2)) a0 3)) a0 4)) o 5 ((mm_u (mm_u (mm_u I o 2 (I a0 2)) o 3 ((mm_u I o 2 (I a0 2)) a0 3)) o 4 ((mm_u (mm_u I o 2 (I a0 2)) o 3 ((mm_u I o 2 (I a0 2)) a0 3)) a0 4)) a0 5)) a0 9)) a0 10)) (a0 + 1)) ((mm_u (mm_u (mm_u (mm_u (mm_u (mm_u I o 2 (I a0 2)) o 3 ((mm_u I o 2 (I a0 2)) a0 3)) o 4 ((mm_u (mm_u I o 2 (I a0 2)) o 3 ((mm_u I o 2 (I a0 2)) a0 3)) a0 4)) o 5 ((mm_u (mm_u (mm_u I o 2 (I a0 2)) o 3 ((mm_u I o 2 (I a0 2)) a0 3)) o 4 ((mm_u (mm_u I o 2 (I a0 2)) o 3 ((mm_u I o 2 (I a0 2)) a0 3)) a0 4)) a0 5)) o 9 ((mm_u (mm_u (mm_u (mm_u I o 2 (I a0 2)) o 3 ((mm_u I o 2 (I a0 2)) a0 3)) o 4 ((mm_u (mm_u I o 2 (I a0 2)) o 3 ((mm_u I o 2 (I a0 2)) a0 3)) a0 4)) o 5 ((mm_u (mm_u (mm_u I o 2 (I a0 2)) o 3 ((mm_u I o 2 (I a0 2)) a0 3)) o 4 ((mm_u (mm_u I o 2 (I a0 2)) o 3 ((mm_u I o 2 (I a0 2)) a0 3)) a0 4)) a0 5)) a0 9)) o 10 ((mm_u (mm_u (mm_u (mm_u (mm_u I o 2 (I a0 2)) o 3 ((mm_u I o 2 (I a0 2)) a0 3)) o 4 ((mm_u (mm_u I o 2 (I a0 2)) o 3 ((mm_u I o 2 (I a0 2)) a0 3)) a0 4)) o 5 ((mm_u (mm_u (mm_u I o 2 (I a0 2)) o 3 ((mm_u I o 2 (I a0 2)) a0 3)) o 4 ((mm_u (mm_u I o 2 (I a0 2)) o 3 ((mm_u I o 2 (I a0 2)) a0 3)) a0 4)) a0 5)) o 9 ((mm_u (mm_u (mm_u (mm_u I o 2 (I a0 2)) o 3 ((mm_u I o 2 (I a0 2)) a0 3)) o 4 ((mm_u (mm_u I o 2 (I a0 2)) o 3 ((mm_u I o 2 (I a0 2)) a0 3)) a0 4)) o 5 ((mm_u (mm_u (mm_u I o 2 (I a0 2)) o 3 ((mm_u I o 2 (I a0 2)) a0 3)) o 4 ((mm_u (mm_u I o 2 (I a0 2)) o 3 ((mm_u I o 2 (I a0 2)) a0 3)) a0 4)) a0 5)) a0 9)) a0 10)) (o + 1)) ((Int32.ofInt 0)).toNatClampNeg ((Int32.ofInt 0)).toNatClampNeg ((Int32.ofInt 60)).toNatClampNeg else (mm_u (mm_u (mm_u (mm_u (mm_u (mm_u I o 2 (I a0 2)) o 3 ((mm_u I o 2 (I a0 2)) a0 3)) o 4 ((mm_u (mm_u I o 2 (I a0 2)) o 3 ((mm_u I o 2 (I a0 2)) a0 3)) a0 4)) o 5 ((mm_u (mm_u (mm_u I o 2 (I a0 2)) o 3 ((mm_u I o 2 (I a0 2)) a0 3)) o 4 ((mm_u (mm_u I o 2 (I a0 2)) o 3 ((mm_u I o 2 (I a0 2)) a0 3)) a0 4)) a0 5)) o 9 ((mm_u (mm_u (mm_u (mm_u I o 2 (I a0 2)) o 3 ((mm_u I o 2 (I a0 2)) a0 3)) o 4 ((mm_u (mm_u I o 2 (I a0 2)) o 3 ((mm_u I o 2 (I a0 2)) a0 3)) a0 4)) o 5 ((mm_u (mm_u (mm_u I o 2 (I a0 2)) o 3 ((mm_u I o 2 (I a0 2)) a0 3)) o 4 ((mm_u (mm_u I o 2 (I a0 2)) o 3 ((mm_u I o 2 (I a0 2)) a0 3)) a0 4)) a0 5)) a0 9)) o 10 ((mm_u (mm_u (mm_u (mm_u (mm_u I o 2 (I a0 2)) o 3 ((mm_u I o 2 (I a0 2)) a0 3)) o 4 ((mm_u (mm_u I o 2 (I a0 2)) o 3 ((mm_u I o 2 (I a0 2)) a0 3)) a0 4)) o 5 ((mm_u (mm_u (mm_u I o 2 (I a0 2)) o 3 ((mm_u I o 2 (I a0 2)) a0 3)) o 4 ((mm_u (mm_u I o 2 (I a0 2)) o 3 ((mm_u I o 2 (I a0 2)) a0 3)) a0 4)) a0 5)) o 9 ((mm_u (mm_u (mm_u (mm_u I o 2 (I a0 2)) o 3 ((mm_u I o 2 (I a0 2)) a0 3)) o 4 ((mm_u (mm_u I o 2 (I a0 2)) o 3 ((mm_u I o 2 (I a0 2)) a0 3)) a0 4)) o 5 ((mm_u (mm_u (mm_u I o 2 (I a0 2)) o 3 ((mm_u I o 2 (I a0 2)) a0 3)) o 4 ((mm_u (mm_u I o 2 (I a0 2)) o 3 ((mm_u I o 2 (I a0 2)) a0 3)) a0 4)) a0 5)) a0 9)) a0 10)) i_) i_) (a0 + 3)) ((fun i_ => if i_ = (o + 2) then va_cpy ((fun i_ => if i_ = (o + 1) then va_cpy ((mm_u (mm_u (mm_u (mm_u (mm_u (mm_u I o 2 (I a0 2)) o 3 ((mm_u I o 2 (I a0 2)) a0 3)) o 4 ((mm_u (mm_u I o 2 (I a0 2)) o 3 ((mm_u I o 2 (I a0 2)) a0 3)) a0 4)) o 5 ((mm_u (mm_u (mm_u I o 2 (I a0 2)) o 3 ((mm_u I o 2 (I a0 2)) a0 3)) o 4 ((mm_u (mm_u I o 2 (I a0 2)) o 3 ((mm_u I o 2 (I a0 2)) a0 3)) a0 4)) a0 5)) o 9 ((mm_u (mm_u (mm_u (mm_u I o 2 (I a0 2)) o 3 ((mm_u I o 2 (I a0 2)) a0 3)) o 4 ((mm_u (mm_u I o 2 (I a0 2)) o 3 ((mm_u I o 2 (I a0 2)) a0 3)) a0 4)) o 5 ((mm_u (mm_u (mm_u I o 2 (I a0 2)) o 3 ((mm_u I o 2 (I a0 2)) a0 3)) o 4 ((mm_u (mm_u I o 2 (I a0 2)) o 3 ((mm_u I o 2 (I a0 2)) a0 3)) a0 4)) a0 5)) a0 9)) o 10 ((mm_u (mm_u (mm_u (mm_u (mm_u I o 2 (I a0 2)) o 3 ((mm_u I o 2 (I a0 2)) a0 3)) o 4 ((mm_u (mm_u I o 2 (I a0 2)) o 3 ((mm_u I o 2 (I a0 2)) a0 3)) a0 4)) o 5 ((mm_u (mm_u (mm_u I o 2 (I a0 2)) o 3 ((mm_u I o 2 (I a0 2)) a0 3)) o 4 ((mm_u (mm_u I o 2 (I a0 2)) o 3 ((mm_u I o 2 (I a0 2)) a0 3)) a0 4)) a0 5)) o 9 ((mm_u (mm_u (mm_u (mm_u I o 2 (I a0 2)) o 3 ((mm_u I o 2 (I a0 2)) a0 3)) o 4 ((mm_u (mm_u I o 2 (I a0 2)) o 3 ((mm_u I o 2 (I a0 2)) a0 3)) a0 4)) o 5 ((mm_u (mm_u (mm_u I o 2 (I a0 2)) o 3 ((mm_u I o 2 (I a0 2)) a0 3)) o 4 ((mm_u (mm_u I o 2 (I a0 2)) o 3 ((mm_u I o 2 (I a0 2)) a0 3)) a0 4)) a0 5)) a0 9)) a0 10)) (a0 + 1)) ((mm_u (mm_u (mm_u (mm_u (mm_u (mm_u I o 2 (I a0 2)) o 3 ((mm_u I o 2 (I a0 2)) a0 3)) o 4 ((mm_u (mm_u I o 2 (I a0 2)) o 3 ((mm_u I o 2 (I a0 2)) a0 3)) a0 4)) o 5 ((mm_u (mm_u (mm_u I o 2 (I a0 2)) o 3 ((mm_u I o 2 (I a0 2)) a0 3)) o 4 ((mm_u (mm_u I o 2 (I a0 2)) o 3 ((mm_u I o 2 (I a0 2)) a0 3)) a0 4)) a0 5)) o 9 ((mm_u (mm_u (mm_u (mm_u I o 2 (I a0 2)) o 3 ((mm_u I o 2 (I a0 2)) a0 3)) o 4 ((mm_u (mm_u I o 2 (I a0 2)) o 3 ((mm_u I o 2 (I a0 2)) a0 3)) a0 4)) o 5 ((mm_u (mm_u (mm_u I o 2 (I a0 2)) o 3 ((mm_u I o 2 (I a0 2)) a0 3)) o 4 ((mm_u (mm_u I o 2 (I a0 2)) o 3 ((mm_u I o 2 (I a0 2)) a0 3)) a0 4)) a0 5)) a0 9)) o 10 ((mm_u (mm_u (mm_u (mm_u (mm_u I o 2 (I a0 2)) o 3 ((mm_u I o 2 (I a0 2)) a0 3)) o 4 ((mm_u (mm_u I o 2 (I a0 2)) o 3 ((mm_u I o 2 (I a0 2)) a0 3)) a0 4)) o 5 ((mm_u (mm_u (mm_u I o 2 (I a0 2)) o 3 ((mm_u I o 2 (I a0 2)) a0 3)) o 4 ((mm_u (mm_u I o 2 (I a0 2)) o 3 ((mm_u I o 2 (I a0 2)) a0 3)) a0 4)) a0 5)) o 9 ((mm_u (mm_u (mm_u (mm_u I o 2 (I a0 2)) o 3 ((mm_u I o 2 (I a0 2)) a0 3)) o 4 ((mm_u (mm_u I o 2 (I a0 2)) o 3 ((mm_u I o 2 (I a0 2)) a0 3)) a0 4)) o 5 ((mm_u (mm_u (mm_u I o 2 (I a0 2)) o 3 ((mm_u I o 2 (I a0 2)) a0 3)) o 4 ((mm_u (mm_u I o 2 (I a0 2)) o 3 ((mm_u I o 2 (I a0 2)) a0 3)) a0 4)) a0 5)) a0 9)) a0 10)) (o + 1)) ((Int32.ofInt 0)).toNatClampNeg ((Int32.ofInt 0)).toNatClampNeg ((Int32.ofInt 60)).toNatClampNeg else (mm_u (mm_u (mm_u (mm_u (mm_u (mm_u I o 2 (I a0 2)) o 3 ((mm_u I o 2 (I a0 2)) a0 3)) o 4 ((mm_u (mm_u I o 2 (I a0 2)) o 3 ((mm_u I o 2 (I a0 2)) a0 3)) a0 4)) o 5 ((mm_u (mm_u (mm_u I o 2 (I a0 2)) o 3 ((mm_u I o 2 (I a0 2)) a0 3)) o 4 ((mm_u (mm_u I o 2 (I a0 2)) o 3 ((mm_u I o 2 (I a0 2)) a0 3)) a0 4)) a0 5)) o 9 ((mm_u (mm_u (mm_u (mm_u I o 2 (I a0 2)) o 3 ((mm_u I o 2 (I a0 2)) a0 3)) o 4 ((mm_u (mm_u I o 2 (I a0 2)) o 3 ((mm_u I o 2 (I a0 2)) a0 3)) a0 4)) o 5 ((mm_u (mm_u (mm_u I o 2 (I a0 2)) o 3 ((mm_u I o 2 (I a0 2)) a0 3)) o 4 ((mm_u (mm_u I o 2 (I a0 2)) o 3 ((mm_u I o 2 (I a0 2)) a0 3)) a0 4)) a0 5)) a0 9)) o 10 ((mm_u (mm_u (mm_u (mm_u (mm_u I o 2 (I a0 2)) o 3 ((mm_u I o 2 (I a0 2)) a0 3)) o 4 ((mm_u (mm_u I o 2 (I a0 2)) o 3 ((mm_u I o 2 (I a0 2)) a0 3)) a0 4)) o 5 ((mm_u (mm_u (mm_u I o 2 (I a0 2)) o 3 ((mm_u I o 2 (I a0 2)) a0 3)) o 4 ((mm_u (mm_u I o 2 (I a0 2)) o 3 ((mm_u I o 2 (I a0 2)) a0 3)) a0 4)) a0 5)) o 9 ((mm_u (mm_u (mm_u (mm_u I o 2 (I a0 2)) o 3 ((mm_u I o 2 (I a0 2)) a0 3)) o 4 ((mm_u (mm_u I o 2 (I a0 2)) o 3 ((mm_u I o 2 (I a0 2)) a0 3)) a0 4)) o 5 ((mm_u (mm_u (mm_u I o 2 (I a0 2)) o 3 ((mm_u I o 2 (I a0 2)) a0 3)) o 4 ((mm_u (mm_u I o 2 (I a0 2)) o 3 ((mm_u I o 2 (I a0 2)) a0 3)) a0 4)) a0 5)) a0 9)) a0 10)) i_) (a0 + 2)) ((fun i_ => if i_ = (o + 1) then va_cpy ((mm_u (mm_u (mm_u (mm_u (mm_u (mm_u I o 2 (I a0 2)) o 3 ((mm_u I o 2 (I a0 2)) a0 3)) o 4 ((mm_u (mm_u I o 2 (I a0 2)) o 3 ((mm_u I o 2 (I a0 2)) a0 3)) a0 4)) o 5 ((mm_u (mm_u (mm_u I o 2 (I a0 2)) o 3 ((mm_u I o 2 (I a0 2)) a0 3)) o 4 ((mm_u (mm_u I o 2 (I a0 2)) o 3 ((mm_u I o 2 (I a0 2)) a0 3)) a0 4)) a0 5)) o 9 ((mm_u (mm_u (mm_u (mm_u I o 2 (I a0 2)) o 3 ((mm_u I o 2 (I a0 2)) a0 3)) o 4 ((mm_u (mm_u I o 2 (I a0 2)) o 3 ((mm_u I o 2 (I a0 2)) a0 3)) a0 4)) o 5 ((mm_u (mm_u (mm_u I o 2 (I a0 2)) o 3 ((mm_u I o 2 (I a0 2)) a0 3)) o 4 ((mm_u (mm_u I o 2 (I a0 2)) o 3 ((mm_u I o 2 (I a0 2)) a0 3)) a0 4)) a0 5)) a0 9)) o 10 ((mm_u (mm_u (mm_u (mm_u (mm_u I o 2 (I a0 2)) o 3 ((mm_u I o 2 (I a0 2)) a0 3)) o 4 ((mm_u (mm_u I o 2 (I a0 2)) o 3 ((mm_u I o 2 (I a0 2)) a0 3)) a0 4)) o 5 ((mm_u (mm_u (mm_u I o 2 (I a0 2)) o 3 ((mm_u I o 2 (I a0 2)) a0 3)) o 4 ((mm_u (mm_u I o 2 (I a0 2)) o 3 ((mm_u I o 2 (I a0 2)) a0 3)) a0 4)) a0 5)) o 9 ((mm_u (mm_u (mm_u (mm_u I o 2 (I a0 2)) o 3 ((mm_u I o 2 (I a0 2)) a0 3)) o 4 ((mm_u (mm_u I o 2 (I a0 2)) o 3 ((mm_u I o 2 (I a0 2)) a0 3)) a0 4)) o 5 ((mm_u (mm_u (mm_u I o 2 (I a0 2)) o 3 ((mm_u I o 2 (I a0 2)) a0 3)) o 4 ((mm_u (mm_u I o 2 (I a0 2)) o 3 ((mm_u I o 2 (I a0 2)) a0 3)) a0 4)) a0 5)) a0 9)) a0 10)) (a0 + 1)) ((mm_u (mm_u (mm_u (mm_u (mm_u (mm_u I o 2 (I a0 2)) o 3 ((mm_u I o 2 (I a0 2)) a0 3)) o 4 ((mm_u (mm_u I o 2 (I a0 2)) o 3 ((mm_u I o 2 (I a0 2)) a0 3)) a0 4)) o 5 ((mm_u (mm_u (mm_u I o 2 (I a0 2)) o 3 ((mm_u I o 2 (I a0 2)) a0 3)) o 4 ((mm_u (mm_u I o 2 (I a0 2)) o 3 ((mm_u I o 2 (I a0 2)) a0 3)) a0 4)) a0 5)) o 9 ((mm_u (mm_u (mm_u (mm_u I o 2 (I a0 2)) o 3 ((mm_u I o 2 (I a0 2)) a0 3)) o 4 ((mm_u (mm_u I o 2 (I a0 2)) o 3 ((mm_u I o 2 (I a0 2)) a0 3)) a0 4)) o 5 ((mm_u (mm_u (mm_u I o 2 (I a0 2)) o 3 ((mm_u I o 2 (I a0 2)) a0 3)) o 4 ((mm_u (mm_u I o 2 (I a0 2)) o 3 ((mm_u I o 2 (I a0 2)) a0 3)) a0 4)) a0 5)) a0 9)) o 10 ((mm_u (mm_u (mm_u (mm_u (mm_u I o 2 (I a0 2)) o 3 ((mm_u I o 2 (I a0 2)) a0 3)) o 4 ((mm_u (mm_u I o 2 (I a0 2)) o 3 ((mm_u I o 2 (I a0 2)) a0 3)) a0 4)) o 5 ((mm_u (mm_u (mm_u I o 2 (I a0 2)) o 3 ((mm_u I o 2 (I a0 2)) a0 3)) o 4 ((mm_u (mm_u I o 2 (I a0 2)) o 3 ((mm_u I o 2 (I a0 2)) a0 3)) a0 4)) a0 5)) o 9 ((mm_u (mm_u (mm_u (mm_u I o 2 (I a0 2)) o 3 ((mm_u I o 2 (I a0 2)) a0 3)) o 4 ((mm_u (mm_u I o 2 (I a0 2)) o 3 ((mm_u I o 2 (I a0 2)) a0 3)) a0 4)) o 5 ((mm_u (mm_u (mm_u I o 2 (I a0 2)) o 3 ((mm_u I o 2 (I a0 2)) a0 3)) o 4 ((mm_u (mm_u I o 2 (I a0 2)) o 3 ((mm_u I o 2 (I a0 2)) a0 3)) a0 4)) a0 5)) a0 9)) a0 10)) (o + 1)) ((Int32.ofInt 0)).toNatClampNeg ((Int32.ofInt 0)).toNatClampNeg ((Int32.ofInt 60)).toNatClampNeg else (mm_u (mm_u (mm_u (mm_u (mm_u (mm_u I o 2 (I a0 2)) o 3 ((mm_u I o 2 (I a0 2)) a0 3)) o 4 ((mm_u (mm_u I o 2 (I a0 2)) o 3 ((mm_u I o 2 (I a0 2)) a0 3)) a0 4)) o 5 ((mm_u (mm_u (mm_u I o 2 (I a0 2)) o 3 ((mm_u I o 2 (I a0 2)) a0 3)) o 4 ((mm_u (mm_u I o 2 (I a0 2)) o 3 ((mm_u I o 2 (I a0 2)) a0 3)) a0 4)) a0 5)) o 9 ((mm_u (mm_u (mm_u (mm_u I o 2 (I a0 2)) o 3 ((mm_u I o 2 (I a0 2)) a0 3)) o 4 ((mm_u (mm_u I o 2 (I a0 2)) o 3 ((mm_u I o 2 (I a0 2)) a0 3)) a0 4)) o 5 ((mm_u (mm_u (mm_u I o 2 (I a0 2)) o 3 ((mm_u I o 2 (I a0 2)) a0 3)) o 4 ((mm_u (mm_u I o 2 (I a0 2)) o 3 ((mm_u I o 2 (I a0 2)) a0 3)) a0 4)) a0 5)) a0 9)) o 10 ((mm_u (mm_u (mm_u (mm_u (mm_u I o 2 (I a0 2)) o 3 ((mm_u I o 2 (I a0 2)) a0 3)) o 4 ((mm_u (mm_u I o 2 (I a0 2)) o 3 ((mm_u I o 2 (I a0 2)) a0 3)) a0 4)) o 5 ((mm_u (mm_u (mm_u I o 2 (I a0 2)) o 3 ((mm_u I o 2 (I a0 2)) a0 3)) o 4 ((mm_u (mm_u I o 2 (I a0 2)) o 3 ((mm_u I o 2 (I a0 2)) a0 3)) a0 4)) a0 5)) o 9 ((mm_u (mm_u (mm_u (mm_u I o 2 (I a0 2)) o 3 ((mm_u I o 2 (I a0 2)) a0 3)) o 4 ((mm_u (mm_u I o 2 (I a0 2)) o 3 ((mm_u I o 2 (I a0 2)) a0 3)) a0 4)) o 5 ((mm_u (mm_u (mm_u I o 2 (I a0 2)) o 3 ((mm_u I o 2 (I a0 2)) a0 3)) o 4 ((mm_u (mm_u I o 2 (I a0 2)) o 3 ((mm_u I o 2 (I a0 2)) a0 3)) a0 4)) a0 5)) a0 9)) a0 10)) i_) (o + 2)) ((Int32.ofInt 0)).toNatClampNeg ((Int32.ofInt 0)).toNatClampNeg ((Int32.ofInt 60)).toNatClampNeg else (fun i_ => if i_ = (o + 1) then va_cpy ((mm_u (mm_u (mm_u (mm_u (mm_u (mm_u I o 2 (I a0 2)) o 3 ((mm_u I o 2 (I a0 2)) a0 3)) o 4 ((mm_u (mm_u I o 2 (I a0 2)) o 3 ((mm_u I o 2 (I a0 2)) a0 3)) a0 4)) o 5 ((mm_u (mm_u (mm_u I o 2 (I a0 2)) o 3 ((mm_u I o 2 (I a0 2)) a0 3)) o 4 ((mm_u (mm_u I o 2 (I a0 2)) o 3 ((mm_u I o 2 (I a0 2)) a0 3)) a0 4)) a0 5)) o 9 ((mm_u (mm_u (mm_u (mm_u I o 2 (I a0 2)) o 3 ((mm_u I o 2 (I a0 2)) a0 3)) o 4 ((mm_u (mm_u I o 2 (I a0 2)) o 3 ((mm_u I o 2 (I a0 2)) a0 3)) a0 4)) o 5 ((mm_u (mm_u (mm_u I o 2 (I a0 2)) o 3 ((mm_u I o 2 (I a0 2)) a0 3)) o 4 ((mm_u (mm_u I o 2 (I a0 2)) o 3 ((mm_u I o 2 (I a0 2)) a0 3)) a0 4)) a0 5)) a0 9)) o 10 ((mm_u (mm_u (mm_u (mm_u (mm_u I o 2 (I a0 2)) o 3 ((mm_u I o 2 (I a0 2)) a0 3)) o 4 ((mm_u (mm_u I o 2 (I a0 2)) o 3 ((mm_u I o 2 (I a0 2)) a0 3)) a0 4)) o 5 ((mm_u (mm_u (mm_u I o 2 (I a0 2)) o 3 ((mm_u I o 2 (I a0 2)) a0 3)) o 4 ((mm_u (mm_u I o 2 (I a0 2)) o 3 ((mm_u I o 2 (I a0 2)) a0 3)) a0 4)) a0 5)) o 9 ((mm_u (mm_u (mm_u (mm_u I o 2 (I a0 2)) o 3 ((mm_u I o 2 (I a0 2)) a0 3)) o 4 ((mm_u (mm_u I o 2 (I a0 2)) o 3 ((mm_u I o 2 (I a0 2)) a0 3)) a0 4)) o 5 ((mm_u (mm_u (mm_u I o 2 (I a0 2)) o 3 ((mm_u I o 2 (I a0 2)) a0 3)) o 4 ((mm_u (mm_u I o 2 (I a0 2)) o 3 ((mm_u I o 2 (I a0 2)) a0 3)) a0 4)) a0 5)) a0 9)) a0 10)) (a0 + 1)) ((mm_u (mm_u (mm_u (mm_u (mm_u (mm_u I o 2 (I a0 2)) o 3 ((mm_u I o 2 (I a0 2)) a0 3)) o 4 ((mm_u (mm_u I o 2 (I a0 2)) o 3 ((mm_u I o 2 (I a0 2)) a0 3)) a0 4)) o 5 ((mm_u (mm_u (mm_u I o 2 (I a0 2)) o 3 ((mm_u I o 2 (I a0 2)) a0 3)) o 4 ((mm_u (mm_u I o 2 (I a0 2)) o 3 ((mm_u I o 2 (I a0 2)) a0 3)) a0 4)) a0 5)) o 9 ((mm_u (mm_u (mm_u (mm_u I o 2 (I a0 2)) o 3 ((mm_u I o 2 (I a0 2)) a0 3)) o 4 ((mm_u (mm_u I o 2 (I a0 2)) o 3 ((mm_u I o 2 (I a0 2)) a0 3)) a0 4)) o 5 ((mm_u (mm_u (mm_u I o 2 (I a0 2)) o 3 ((mm_u I o 2 (I a0 2)) a0 3)) o 4 ((mm_u (mm_u I o 2 (I a0 2)) o 3 ((mm_u I o 2 (I a0 2)) a0 3)) a0 4)) a0 5)) a0 9)) o 10 ((mm_u (mm_u (mm_u (mm_u (mm_u I o 2 (I a0 2)) o 3 ((mm_u I o 2 (I a0 2)) a0 3)) o 4 ((mm_u (mm_u I o 2 (I a0 2)) o 3 ((mm_u I o 2 (I a0 2)) a0 3)) a0 4)) o 5 ((mm_u (mm_u (mm_u I o 2 (I a0 2)) o 3 ((mm_u I o 2 (I a0 2)) a0 3)) o 4 ((mm_u (mm_u I o 2 (I a0 2)) o 3 ((mm_u I o 2 (I a0 2)) a0 3)) a0 4)) a0 5)) o 9 ((mm_u (mm_u (mm_u (mm_u I o 2 (I a0 2)) o 3 ((mm_u I o 2 (I a0 2)) a0 3)) o 4 ((mm_u (mm_u I o 2 (I a0 2)) o 3 ((mm_u I o 2 (I a0 2)) a0 3)) a0 4)) o 5 ((mm_u (mm_u (mm_u I o 2 (I a0 2)) o 3 ((mm_u I o 2 (I a0 2)) a0 3)) o 4 ((mm_u (mm_u I o 2 (I a0 2)) o 3 ((mm_u I o 2 (I a0 2)) a0 3)) a0 4)) a0 5)) a0 9)) a0 10)) (o + 1)) ((Int32.ofInt 0)).toNatClampNeg ((Int32.ofInt 0)).toNatClampNeg ((Int32.ofInt 60)).toNatClampNeg else (mm_u (mm_u (mm_u (mm_u (mm_u (mm_u I o 2 (I a0 2)) o 3 ((mm_u I o 2 (I a0 2)) a0 3)) o 4 ((mm_u (mm_u I o 2 (I a0 2)) o 3 ((mm_u I o 2 (I a0 2)) a0 3)) a0 4)) o 5 ((mm_u (mm_u (mm_u I o 2 (I a0 2)) o 3 ((mm_u I o 2 (I a0 2)) a0 3)) o 4 ((mm_u (mm_u I o 2 (I a0 2)) o 3 ((mm_u I o 2 (I a0 2)) a0 3)) a0 4)) a0 5)) o 9 ((mm_u (mm_u (mm_u (mm_u I o 2 (I a0 2)) o 3 ((mm_u I o 2 (I a0 2)) a0 3)) o 4 ((mm_u (mm_u I o 2 (I a0 2)) o 3 ((mm_u I o 2 (I a0 2)) a0 3)) a0 4)) o 5 ((mm_u (mm_u (mm_u I o 2 (I a0 2)) o 3 ((mm_u I o 2 (I a0 2)) a0 3)) o 4 ((mm_u (mm_u I o 2 (I a0 2)) o 3 ((mm_u I o 2 (I a0 2)) a0 3)) a0 4)) a0 5)) a0 9)) o 10 ((mm_u (mm_u (mm_u (mm_u (mm_u I o 2 (I a0 2)) o 3 ((mm_u I o 2 (I a0 2)) a0 3)) o 4 ((mm_u (mm_u I o 2 (I a0 2)) o 3 ((mm_u I o 2 (I a0 2)) a0 3)) a0 4)) o 5 ((mm_u (mm_u (mm_u I o 2 (I a0 2)) o 3 ((mm_u I o 2 (I a0 2)) a0 3)) o 4 ((mm_u (mm_u I o 2 (I a0 2)) o 3 ((mm_u I o 2 (I a0 2)) a0 3)) a0 4)) a0 5)) o 9 ((mm_u (mm_u (mm_u (mm_u I o 2 (I a0 2)) o 3 ((mm_u I o 2 (I a0 2)) a0 3)) o 4 ((mm_u (mm_u I o 2 (I a0 2)) o 3 ((mm_u I o 2 (I a0 2)) a0 3)) a0 4)) o 5 ((mm_u (mm_u (mm_u I o 2 (I a0 2)) o 3 ((mm_u I o 2 (I a0 2)) a0 3)) o 4 ((mm_u (mm_u I o 2 (I a0 2)) o 3 ((mm_u I o 2 (I a0 2)) a0 3)) a0 4)) a0 5)) a0 9)) a0 10)) i_) i_) (o + 3)) ((Int32.ofInt 0)).toNatClampNeg ((Int32.ofInt 0)).toNatClampNeg ((Int32.ofInt 60)).toNatClampNeg else (fun i_ => if i_ = (o + 2) then va_cpy ((fun i_ => if i_ = (o + 1) then va_cpy ((mm_u (mm_u (mm_u (mm_u (mm_u (mm_u I o 2 (I a0 2)) o 3 ((mm_u I o 2 (I a0 2)) a0 3)) o 4 ((mm_u (mm_u I o 2 (I a0 2)) o 3 ((mm_u I o 2 (I a0 2)) a0 3)) a0 4)) o 5 ((mm_u (mm_u (mm_u I o 2 (I a0 2)) o 3 ((mm_u I o 2 (I a0 2)) a0 3)) o 4 ((mm_u (mm_u I o 2 (I a0 2)) o 3 ((mm_u I o 2 (I a0 2)) a0 3)) a0 4)) a0 5)) o 9 ((mm_u (mm_u (mm_u (mm_u I o 2 (I a0 2)) o 3 ((mm_u I o 2 (I a0 2)) a0 3)) o 4 ((mm_u (mm_u I o 2 (I a0 2)) o 3 ((mm_u I o 2 (I a0 2)) a0 3)) a0 4)) o 5 ((mm_u (mm_u (mm_u I o 2 (I a0 2)) o 3 ((mm_u I o 2 (I a0 2)) a0 3)) o 4 ((mm_u (mm_u I o 2 (I a0 2)) o 3 ((mm_u I o 2 (I a0 2)) a0 3)) a0 4)) a0 5)) a0 9)) o 10 ((mm_u (mm_u (mm_u (mm_u (mm_u I o 2 (I a0 2)) o 3 ((mm_u I o 2 (I a0 2)) a0 3)) o 4 ((mm_u (mm_u I o 2 (I a0 2)) o 3 ((mm_u I o 2 (I a0 2)) a0 3)) a0 4)) o 5 ((mm_u (mm_u (mm_u I o 2 (I a0 2)) o 3 ((mm_u I o 2 (I a0 2)) a0 3)) o 4 ((mm_u (mm_u I o 2 (I a0 2)) o 3 ((mm_u I o 2 (I a0 2)) a0 3)) a0 4)) a0 5)) o 9 ((mm_u (mm_u (mm_u (mm_u I o 2 (I a0 2)) o 3 ((mm_u I o 2 (I a0 2)) a0 3)) o 4 ((mm_u (mm_u I o 2 (I a0 2)) o 3 ((mm_u I o 2 (I a0 2)) a0 3)) a0 4)) o 5 ((mm_u (mm_u (mm_u I o 2 (I a0 2)) o 3 ((mm_u I o 2 (I a0 2)) a0 3)) o 4 ((mm_u (mm_u I o 2 (I a0 2)) o 3 ((mm_u I o 2 (I a0 2)) a0 3)) a0 4)) a0 5)) a0 9)) a0 10)) (a0 + 1)) ((mm_u (mm_u (mm_u (mm_u (mm_u (mm_u I o 2 (I a0 2)) o 3 ((mm_u I o 2 (I a0 2)) a0 3)) o 4 ((mm_u (mm_u I o 2 (I a0 2)) o 3 ((mm_u I o 2 (I a0 2)) a0 3)) a0 4)) o 5 ((mm_u (mm_u (mm_u I o 2 (I a0 2)) o 3 ((mm_u I o 2 (I a0 2)) a0 3)) o 4 ((mm_u (mm_u I o 2 (I a0 2)) o 3 ((mm_u I o 2 (I a0 2)) a0 3)) a0 4)) a0 5)) o 9 ((mm_u (mm_u (mm_u (mm_u I o 2 (I a0 2)) o 3 ((mm_u I o 2 (I a0 2)) a0 3)) o 4 ((mm_u (mm_u I o 2 (I a0 2)) o 3 ((mm_u I o 2 (I a0 2)) a0 3)) a0 4)) o 5 ((mm_u (mm_u (mm_u I o 2 (I a0 2)) o 3 ((mm_u I o 2 (I a0 2)) a0 3)) o 4 ((mm_u (mm_u I o 2 (I a0 2)) o 3 ((mm_u I o 2 (I a0 2)) a0 3)) a0 4)) a0 5)) a0 9)) o 10 ((mm_u (mm_u (mm_u (mm_u (mm_u I o 2 (I a0 2)) o 3 ((mm_u I o 2 (I a0 2)) a0 3)) o 4 ((mm_u (mm_u I o 2 (I a0 2)) o 3 ((mm_u I o 2 (I a0 2)) a0 3)) a0 4)) o 5 ((mm_u (mm_u (mm_u I o 2 (I a0 2)) o 3 ((mm_u I o 2 (I a0 2)) a0 3)) o 4 ((mm_u (mm_u I o 2 (I a0 2)) o 3 ((mm_u I o 2 (I a0 2)) a0 3)) a0 4)) a0 5)) o 9 ((mm_u (mm_u (mm_u (mm_u I o 2 (I a0 2)) o 3 ((mm_u I o 2 (I a0 2)) a0 3)) o 4 ((mm_u (mm_u I o 2 (I a0 2)) o 3 ((mm_u I o 2 (I a0 2)) a0 3)) a0 4)) o 5 ((mm_u (mm_u (mm_u I o 2 (I a0 2)) o 3 ((mm_u I o 2 (I a0 2)) a0 3)) o 4 ((mm_u (mm_u I o 2 (I a0 2)) o 3 ((mm_u I o 2 (I a0 2)) a0 3)) a0 4)) a0 5)) a0 9)) a0 10)) (o + 1)) ((Int32.ofInt 0)).toNatClampNeg ((Int32.ofInt 0)).toNatClampNeg ((Int32.ofInt 60)).toNatClampNeg else (mm_u (mm_u (mm_u (mm_u (mm_u (mm_u I o 2 (I a0 2)) o 3 ((mm_u I o 2 (I a0 2)) a0 3)) o 4 ((mm_u (mm_u I o 2 (I a0 2)) o 3 ((mm_u I o 2 (I a0 2)) a0 3)) a0 4)) o 5 ((mm_u (mm_u (mm_u I o 2 (I a0 2)) o 3 ((mm_u I o 2 (I a0 2)) a0 3)) o 4 ((mm_u (mm_u I o 2 (I a0 2)) o 3 ((mm_u I o 2 (I a0 2)) a0 3)) a0 4)) a0 5)) o 9 ((mm_u (mm_u (mm_u (mm_u I o 2 (I a0 2)) o 3 ((mm_u I o 2 (I a0 2)) a0 3)) o 4 ((mm_u (mm_u I o 2 (I a0 2)) o 3 ((mm_u I o 2 (I a0 2)) a0 3)) a0 4)) o 5 ((mm_u (mm_u (mm_u I o 2 (I a0 2)) o 3 ((mm_u I o 2 (I a0 2)) a0 3)) o 4 ((mm_u (mm_u I o 2 (I a0 2)) o 3 ((mm_u I o 2 (I a0 2)) a0 3)) a0 4)) a0 5)) a0 9)) o 10 ((mm_u (mm_u (mm_u (mm_u (mm_u I o 2 (I a0 2)) o 3 ((mm_u I o 2 (I a0 2)) a0 3)) o 4 ((mm_u (mm_u I o 2 (I a0 2)) o 3 ((mm_u I o 2 (I a0 2)) a0 3)) a0 4)) o 5 ((mm_u (mm_u (mm_u I o 2 (I a0 2)) o 3 ((mm_u I o 2 (I a0 2)) a0 3)) o 4 ((mm_u (mm_u I o 2 (I a0 2)) o 3 ((mm_u I o 2 (I a0 2)) a0 3)) a0 4)) a0 5)) o 9 ((mm_u (mm_u (mm_u (mm_u I o 2 (I a0 2)) o 3 ((mm_u I o 2 (I a0 2)) a0 3)) o 4 ((mm_u (mm_u I o 2 (I a0 2)) o 3 ((mm_u I o 2 (I a0 2)) a0 3)) a0 4)) o 5 ((mm_u (mm_u (mm_u I o 2 (I a0 2)) o 3 ((mm_u I o 2 (I a0 2)) a0 3)) o 4 ((mm_u (mm_u I o 2 (I a0 2)) o 3 ((mm_u I o 2 (I a0 2)) a0 3)) a0 4)) a0 5)) a0 9)) a0 10)) i_) (a0 + 2)) ((fun i_ => if i_ = (o + 1) then va_cpy ((mm_u (mm_u (mm_u (mm_u (mm_u (mm_u I o 2 (I a0 2)) o 3 ((mm_u I o 2 (I a0 2)) a0 3)) o 4 ((mm_u (mm_u I o 2 (I a0 2)) o 3 ((mm_u I o 2 (I a0 2)) a0 3)) a0 4)) o 5 ((mm_u (mm_u (mm_u I o 2 (I a0 2)) o 3 ((mm_u I o 2 (I a0 2)) a0 3)) o 4 ((mm_u (mm_u I o 2 (I a0 2)) o 3 ((mm_u I o 2 (I a0 2)) a0 3)) a0 4)) a0 5)) o 9 ((mm_u (mm_u (mm_u (mm_u I o 2 (I a0 2)) o 3 ((mm_u I o 2 (I a0 2)) a0 3)) o 4 ((mm_u (mm_u I o 2 (I a0 2)) o 3 ((mm_u I o 2 (I a0 2)) a0 3)) a0 4)) o 5 ((mm_u (mm_u (mm_u I o 2 (I a0 2)) o 3 ((mm_u I o 2 (I a0 2)) a0 3)) o 4 ((mm_u (mm_u I o 2 (I a0 2)) o 3 ((mm_u I o 2 (I a0 2)) a0 3)) a0 4)) a0 5)) a0 9)) o 10 ((mm_u (mm_u (mm_u (mm_u (mm_u I o 2 (I a0 2)) o 3 ((mm_u I o 2 (I a0 2)) a0 3)) o 4 ((mm_u (mm_u I o 2 (I a0 2)) o 3 ((mm_u I o 2 (I a0 2)) a0 3)) a0 4)) o 5 ((mm_u (mm_u (mm_u I o 2 (I a0 2)) o 3 ((mm_u I o 2 (I a0 2)) a0 3)) o 4 ((mm_u (mm_u I o 2 (I a0 2)) o 3 ((mm_u I o 2 (I a0 2)) a0 3)) a0 4)) a0 5)) o 9 ((mm_u (mm_u (mm_u (mm_u I o 2 (I a0 2)) o 3 ((mm_u I o 2 (I a0 2)) a0 3)) o 4 ((mm_u (mm_u I o 2 (I a0 2)) o 3 ((mm_u I o 2 (I a0 2)) a0 3)) a0 4)) o 5 ((mm_u (mm_u (mm_u I o 2 (I a0 2)) o 3 ((mm_u I o 2 (I a0 2)) a0 3)) o 4 ((mm_u (mm_u I o 2 (I a0 2)) o 3 ((mm_u I o 2 (I a0 2)) a0 3)) a0 4)) a0 5)) a0 9)) a0 10)) (a0 + 1)) ((mm_u (mm_u (mm_u (mm_u (mm_u (mm_u I o 2 (I a0 2)) o 3 ((mm_u I o 2 (I a0 2)) a0 3)) o 4 ((mm_u (mm_u I o 2 (I a0 2)) o 3 ((mm_u I o 2 (I a0 2)) a0 3)) a0 4)) o 5 ((mm_u (mm_u (mm_u I o 2 (I a0 2)) o 3 ((mm_u I o 2 (I a0 2)) a0 3)) o 4 ((mm_u (mm_u I o 2 (I a0 2)) o 3 ((mm_u I o 2 (I a0 2)) a0 3)) a0 4)) a0 5)) o 9 ((mm_u (mm_u (mm_u (mm_u I o 2 (I a0 2)) o 3 ((mm_u I o 2 (I a0 2)) a0 3)) o 4 ((mm_u (mm_u I o 2 (I a0 2)) o 3 ((mm_u I o 2 (I a0 2)) a0 3)) a0 4)) o 5 ((mm_u (mm_u (mm_u I o 2 (I a0 2)) o 3 ((mm_u I o 2 (I a0 2)) a0 3)) o 4 ((mm_u (mm_u I o 2 (I a0 2)) o 3 ((mm_u I o 2 (I a0 2)) a0 3)) a0 4)) a0 5)) a0 9)) o 10 ((mm_u (mm_u (mm_u (mm_u (mm_u I o 2 (I a0 2)) o 3 ((mm_u I o 2 (I a0 2)) a0 3)) o 4 ((mm_u (mm_u I o 2 (I a0 2)) o 3 ((mm_u I o 2 (I a0 2)) a0 3)) a0 4)) o 5 ((mm_u (mm_u (mm_u I o 2 (I a0 2)) o 3 ((mm_u I o 2 (I a0 2)) a0 3)) o 4 ((mm_u (mm_u I o 2 (I a0 2)) o 3 ((mm_u I o 2 (I a0 2)) a0 3)) a0 4)) a0 5)) o 9 ((mm_u (mm_u (mm_u (mm_u I o 2 (I a0 2)) o 3 ((mm_u I o 2 (I a0 2)) a0 3)) o 4 ((mm_u (mm_u I o 2 (I a0 2)) o 3 ((mm_u I o 2 (I a0 2)) a0 3)) a0 4)) o 5 ((mm_u (mm_u (mm_u I o 2 (I a0 2)) o 3 ((mm_u I o 2 (I a0 2)) a0 3)) o 4 ((mm_u (mm_u I o 2 (I a0 2)) o 3 ((mm_u I o 2 (I a0 2)) a0 3)) a0 4)) a0 5)) a0 9)) a0 10)) (o + 1)) ((Int32.ofInt 0)).toNatClampNeg ((Int32.ofInt 0)).toNatClampNeg ((Int32.ofInt 60)).toNatClampNeg else (mm_u (mm_u (mm_u (mm_u (mm_u (mm_u I o 2 (I a0 2)) o 3 ((mm_u I o 2 (I a0 2)) a0 3)) o 4 ((mm_u (mm_u I o 2 (I a0 2)) o 3 ((mm_u I o 2 (I a0 2)) a0 3)) a0 4)) o 5 ((mm_u (mm_u (mm_u I o 2 (I a0 2)) o 3 ((mm_u I o 2 (I a0 2)) a0 3)) o 4 ((mm_u (mm_u I o 2 (I a0 2)) o 3 ((mm_u I o 2 (I a0 2)) a0 3)) a0 4)) a0 5)) o 9 ((mm_u (mm_u (mm_u (mm_u I o 2 (I a0 2)) o 3 ((mm_u I o 2 (I a0 2)) a0 3)) o 4 ((mm_u (mm_u I o 2 (I a0 2)) o 3 ((mm_u I o 2 (I a0 2)) a0 3)) a0 4)) o 5 ((mm_u (mm_u (mm_u I o 2 (I a0 2)) o 3 ((mm_u I o 2 (I a0 2)) a0 3)) o 4 ((mm_u (mm_u I o 2 (I a0 2)) o 3 ((mm_u I o 2 (I a0 2)) a0 3)) a0 4)) a0 5)) a0 9)) o 10 ((mm_u (mm_u (mm_u (mm_u (mm_u I o 2 (I a0 2)) o 3 ((mm_u I o 2 (I a0 2)) a0 3)) o 4 ((mm_u (mm_u I o 2 (I a0 2)) o 3 ((mm_u I o 2 (I a0 2)) a0 3)) a0 4)) o 5 ((mm_u (mm_u (mm_u I o 2 (I a0 2)) o 3 ((mm_u I o 2 (I a0 2)) a0 3)) o 4 ((mm_u (mm_u I o 2 (I a0 2)) o 3 ((mm_u I o 2 (I a0 2)) a0 3)) a0 4)) a0 5)) o 9 ((mm_u (mm_u (mm_u (mm_u I o 2 (I a0 2)) o 3 ((mm_u I o 2 (I a0 2)) a0 3)) o 4 ((mm_u (mm_u I o 2 (I a0 2)) o 3 ((mm_u I o 2 (I a0 2)) a0 3)) a0 4)) o 5 ((mm_u (mm_u (mm_u I o 2 (I a0 2)) o 3 ((mm_u I o 2 (I a0 2)) a0 3)) o 4 ((mm_u (mm_u I o 2 (I a0 2)) o 3 ((mm_u I o 2 (I a0 2)) a0 3)) a0 4)) a0 5)) a0 9)) a0 10)) i_) (o + 2)) ((Int32.ofInt 0)).toNatClampNeg ((Int32.ofInt 0)).toNatClampNeg ((Int32.ofInt 60)).toNatClampNeg else (fun i_ => if i_ = (o + 1) then va_cpy ((mm_u (mm_u (mm_u (mm_u (mm_u (mm_u I o 2 (I a0 2)) o 3 ((mm_u I o 2 (I a0 2)) a0 3)) o 4 ((mm_u (mm_u I o 2 (I a0 2)) o 3 ((mm_u I o 2 (I a0 2)) a0 3)) a0 4)) o 5 ((mm_u (mm_u (mm_u I o 2 (I a0 2)) o 3 ((mm_u I o 2 (I a0 2)) a0 3)) o 4 ((mm_u (mm_u I o 2 (I a0 2)) o 3 ((mm_u I o 2 (I a0 2)) a0 3)) a0 4)) a0 5)) o 9 ((mm_u (mm_u (mm_u (mm_u I o 2 (I a0 2)) o 3 ((mm_u I o 2 (I a0 2)) a0 3)) o 4 ((mm_u (mm_u I o 2 (I a0 2)) o 3 ((mm_u I o 2 (I a0 2)) a0 3)) a0 4)) o 5 ((mm_u (mm_u (mm_u I o 2 (I a0 2)) o 3 ((mm_u I o 2 (I a0 2)) a0 3)) o 4 ((mm_u (mm_u I o 2 (I a0 2)) o 3 ((mm_u I o 2 (I a0 2)) a0 3)) a0 4)) a0 5)) a0 9)) o 10 ((mm_u (mm_u (mm_u (mm_u (mm_u I o 2 (I a0 2)) o 3 ((mm_u I o 2 (I a0 2)) a0 3)) o 4 ((mm_u (mm_u I o 2 (I a0 2)) o 3 ((mm_u I o 2 (I a0 2)) a0 3)) a0 4)) o 5 ((mm_u (mm_u (mm_u I o 2 (I a0 2)) o 3 ((mm_u I o 2 (I a0 2)) a0 3)) o 4 ((mm_u (mm_u I o 2 (I a0 2)) o 3 ((mm_u I o 2 (I a0 2)) a0 3)) a0 4)) a0 5)) o 9 ((mm_u (mm_u (mm_u (mm_u I o 2 (I a0 2)) o 3 ((mm_u I o 2 (I a0 2)) a0 3)) o 4 ((mm_u (mm_u I o 2 (I a0 2)) o 3 ((mm_u I o 2 (I a0 2)) a0 3)) a0 4)) o 5 ((mm_u (mm_u (mm_u I o 2 (I a0 2)) o 3 ((mm_u I o 2 (I a0 2)) a0 3)) o 4 ((mm_u (mm_u I o 2 (I a0 2)) o 3 ((mm_u I o 2 (I a0 2)) a0 3)) a0 4)) a0 5)) a0 9)) a0 10)) (a0 + 1)) ((mm_u (mm_u (mm_u (mm_u (mm_u (mm_u I o 2 (I a0 2)) o 3 ((mm_u I o 2 (I a0 2)) a0 3)) o 4 ((mm_u (mm_u I o 2 (I a0 2)) o 3 ((mm_u I o 2 (I a0 2)) a0 3)) a0 4)) o 5 ((mm_u (mm_u (mm_u I o 2 (I a0 2)) o 3 ((mm_u I o 2 (I a0 2)) a0 3)) o 4 ((mm_u (mm_u I o 2 (I a0 2)) o 3 ((mm_u I o 2 (I a0 2)) a0 3)) a0 4)) a0 5)) o 9 ((mm_u (mm_u (mm_u (mm_u I o 2 (I a0 2)) o 3 ((mm_u I o 2 (I a0 2)) a0 3)) o 4 ((mm_u (mm_u I o 2 (I a0 2)) o 3 ((mm_u I o 2 (I a0 2)) a0 3)) a0 4)) o 5 ((mm_u (mm_u (mm_u I o 2 (I a0 2)) o 3 ((mm_u I o 2 (I a0 2)) a0 3)) o 4 ((mm_u (mm_u I o 2 (I a0 2)) o 3 ((mm_u I o 2 (I a0 2)) a0 3)) a0 4)) a0 5)) a0 9)) o 10 ((mm_u (mm_u (mm_u (mm_u (mm_u I o 2 (I a0 2)) o 3 ((mm_u I o 2 (I a0 2)) a0 3)) o 4 ((mm_u (mm_u I o 2 (I a0 2)) o 3 ((mm_u I o 2 (I a0 2)) a0 3)) a0 4)) o 5 ((mm_u (mm_u (mm_u I o 2 (I a0 2)) o 3 ((mm_u I o 2 (I a0 2)) a0 3)) o 4 ((mm_u (mm_u I o 2 (I a0 2)) o 3 ((mm_u I o 2 (I a0 2)) a0 3)) a0 4)) a0 5)) o 9 ((mm_u (mm_u (mm_u (mm_u I o 2 (I a0 2)) o 3 ((mm_u I o 2 (I a0 2)) a0 3)) o 4 ((mm_u (mm_u I o 2 (I a0 2)) o 3 ((mm_u I o 2 (I a0 2)) a0 3)) a0 4)) o 5 ((mm_u (mm_u (mm_u I o 2 (I a0 2)) o 3 ((mm_u I o 2 (I a0 2)) a0 3)) o 4 ((mm_u (mm_u I o 2 (I a0 2)) o 3 ((mm_u I o 2 (I a0 2)) a0 3)) a0 4)) a0 5)) a0 9)) a0 10)) (o + 1)) ((Int32.ofInt 0)).toNatClampNeg ((Int32.ofInt 0)).toNatClampNeg ((Int32.ofInt 60)).toNatClampNeg else (mm_u (mm_u (mm_u (mm_u (mm_u (mm_u I o 2 (I a0 2)) o 3 ((mm_u I o 2 (I a0 2)) a0 3)) o 4 ((mm_u (mm_u I o 2 (I a0 2)) o 3 ((mm_u I o 2 (I a0 2)) a0 3)) a0 4)) o 5 ((mm_u (mm_u (mm_u I o 2 (I a0 2)) o 3 ((mm_u I o 2 (I a0 2)) a0 3)) o 4 ((mm_u (mm_u I o 2 (I a0 2)) o 3 ((mm_u I o 2 (I a0 2)) a0 3)) a0 4)) a0 5)) o 9 ((mm_u (mm_u (mm_u (mm_u I o 2 (I a0 2)) o 3 ((mm_u I o 2 (I a0 2)) a0 3)) o 4 ((mm_u (mm_u I o 2 (I a0 2)) o 3 ((mm_u I o 2 (I a0 2)) a0 3)) a0 4)) o 5 ((mm_u (mm_u (mm_u I o 2 (I a0 2)) o 3 ((mm_u I o 2 (I a0 2)) a0 3)) o 4 ((mm_u (mm_u I o 2 (I a0 2)) o 3 ((mm_u I o 2 (I a0 2)) a0 3)) a0 4)) a0 5)) a0 9)) o 10 ((mm_u (mm_u (mm_u (mm_u (mm_u I o 2 (I a0 2)) o 3 ((mm_u I o 2 (I a0 2)) a0 3)) o 4 ((mm_u (mm_u I o 2 (I a0 2)) o 3 ((mm_u I o 2 (I a0 2)) a0 3)) a0 4)) o 5 ((mm_u (mm_u (mm_u I o 2 (I a0 2)) o 3 ((mm_u I o 2 (I a0 2)) a0 3)) o 4 ((mm_u (mm_u I o 2 (I a0 2)) o 3 ((mm_u I o 2 (I a0 2)) a0 3)) a0 4)) a0 5)) o 9 ((mm_u (mm_u (mm_u (mm_u I o 2 (I a0 2)) o 3 ((mm_u I o 2 (I a0 2)) a0 3)) o 4 ((mm_u (mm_u I o 2 (I a0 2)) o 3 ((mm_u I o 2 (I a0 2)) a0 3)) a0 4)) o 5 ((mm_u (mm_u (mm_u I o 2 (I a0 2)) o 3 ((mm_u I o 2 (I a0 2)) a0 3)) o 4 ((mm_u (mm_u I o 2 (I a0 2)) o 3 ((mm_u I o 2 (I a0 2)) a0 3)) a0 4)) a0 5)) a0 9)) a0 10)) i_) i_) i_) (mm_u J o 1 (J a0 1)))) : mm_s SL xs (d + 1) 14 [.ref o, .ref a0] (hp p s q I J) Q := by
  refine e_X1_copyFrom rfl ?_
  refine sp_aload_n 1 rfl rfl rfl ?_
  refine sp_aload_n 2 rfl rfl rfl ?_
  refine hq_getJ 5 rfl (kC0 h_a0) rfl ?_
  refine hq_putJ 8 rfl (kC0 h_o) rfl ?_
  refine sp_aload_n 9 rfl rfl rfl ?_
  refine sp_aload_n 10 rfl rfl rfl ?_
  refine hq_getI 13 rfl (kC0 h_a0) rfl ?_
  refine hq_putI 16 rfl (kC0 h_o) rfl ?_
  refine sp_aload_n 17 rfl rfl rfl ?_
  refine sp_aload_n 18 rfl rfl rfl ?_
  refine hq_getI 21 rfl (kC0 h_a0) rfl ?_
  refine hq_putI 24 rfl (kC0 h_o) rfl ?_
  refine sp_aload_n 25 rfl rfl rfl ?_
  refine sp_aload_n 26 rfl rfl rfl ?_
  refine hq_getI 29 rfl (kC0 h_a0) rfl ?_
  refine hq_putI 32 rfl (kC0 h_o) rfl ?_
  refine sp_aload_n 33 rfl rfl rfl ?_
  refine sp_aload_n 34 rfl rfl rfl ?_
  refine hq_getI 37 rfl (kC0 h_a0) rfl ?_
  refine hq_putI 40 rfl (kC0 h_o) rfl ?_
  refine sp_aload_n 41 rfl rfl rfl ?_
  refine sp_aload_n 42 rfl rfl rfl ?_
  refine hq_getI 45 rfl (kC0 h_a0) rfl ?_
  refine hq_putI 48 rfl (kC0 h_o) rfl ?_
  refine sp_aload_n 49 rfl rfl rfl ?_
  refine sp_aload_n 50 rfl rfl rfl ?_
  refine hq_getI 53 rfl (kC0 h_a0) rfl ?_
  refine hq_putI 56 rfl (kC0 h_o) rfl ?_
  refine sp_aload_n 57 rfl rfl rfl ?_
  refine hq_getR 60 rfl (kC0 h_a0) (rC1 h_a0) rfl ?_
  refine sp_iconst 61 rfl rfl ?_
  refine sp_aload_n 62 rfl rfl rfl ?_
  refine hq_getR 65 rfl (kC0 h_o) (rC1 h_o) rfl ?_
  refine sp_iconst 66 rfl rfl ?_
  refine sp_bipush 68 rfl rfl ?_
  refine sp_I (y := Int32.ofInt 60) rfl ?_
  refine hq_copy 71 rfl (kC1 h_a0) (kC1 h_o) (by decide) (by decide) (by decide) (by decide) (by decide) rfl rfl rfl ?_
  refine sp_aload_n 72 rfl rfl rfl ?_
  refine hq_getR 75 rfl (kC0 h_a0) (rC2 h_a0) rfl ?_
  refine sp_iconst 76 rfl rfl ?_
  refine sp_aload_n 77 rfl rfl rfl ?_
  refine hq_getR 80 rfl (kC0 h_o) (rC2 h_o) rfl ?_
  refine sp_iconst 81 rfl rfl ?_
  refine sp_bipush 83 rfl rfl ?_
  refine sp_I (y := Int32.ofInt 60) rfl ?_
  refine hq_copy 86 rfl (kC2 h_a0) (kC2 h_o) (by decide) (by decide) (by decide) (by decide) (by decide) rfl rfl rfl ?_
  refine sp_aload_n 87 rfl rfl rfl ?_
  refine hq_getR 90 rfl (kC0 h_a0) (rC3 h_a0) rfl ?_
  refine sp_iconst 91 rfl rfl ?_
  refine sp_aload_n 92 rfl rfl rfl ?_
  refine hq_getR 95 rfl (kC0 h_o) (rC3 h_o) rfl ?_
  refine sp_iconst 96 rfl rfl ?_
  refine sp_bipush 98 rfl rfl ?_
  refine sp_I (y := Int32.ofInt 60) rfl ?_
  refine hq_copy 101 rfl (kC3 h_a0) (kC3 h_o) (by decide) (by decide) (by decide) (by decide) (by decide) rfl rfl rfl ?_
  exact st_vret rfl rfl (Nat.le_refl _) (Nat.le_refl _) k
theorem sg_X1_isTurned {SL : Nat} {xs : Nat → Int32} {d : Nat} {p s q : Nat} {Q : Option Value → mm_H → Prop} {o : Nat} {a0 : Nat} {I : Nat → Nat → Int32} {J : Nat → Nat → Int64} (h_a0 : isP a0) (h_o : isC o) (k : (((I a0 3) ≤ Int32.ofInt 0 → Q (some (.int (Int32.ofInt 0))) (hp p s q I J)) ∧ (¬ ((I a0 3) ≤ Int32.ofInt 0) → (¬ (I a0 3) = 0 ∧ (((((I o 2) / (I a0 3)) - ((I o 2) / (I a0 3)) / (Int32.ofInt 2) * (Int32.ofInt 2)) = (Int32.ofInt 1) → Q (some (.int (Int32.ofInt 1))) (hp p s q I J)) ∧ (¬ ((((I o 2) / (I a0 3)) - ((I o 2) / (I a0 3)) / (Int32.ofInt 2) * (Int32.ofInt 2)) = (Int32.ofInt 1)) → Q (some (.int (Int32.ofInt 0))) (hp p s q I J))))))) : mm_s SL xs (d + 1) 17 [.ref o, .ref a0] (hp p s q I J) Q := by
  refine e_X1_isTurned rfl ?_
  refine sp_aload_n 1 rfl rfl rfl ?_
  refine hq_getI 4 rfl (kP0 h_a0) rfl ?_
  refine sp_if_le 7 rfl rfl (fun q => ?_) (fun q => ?_)
  · have k := k.1 q
    refine sp_iconst 27 rfl rfl ?_
    exact st_zret rfl rfl (by decide) (Nat.le_refl _) (Nat.le_refl _) k
  · have k := k.2 q
    refine sp_aload_n 8 rfl rfl rfl ?_
    refine hq_getI 11 rfl (kC0 h_o) rfl ?_
    refine sp_aload_n 12 rfl rfl rfl ?_
    refine hq_getI 15 rfl (kP0 h_a0) rfl ?_
    have n1_ := k.1
    have k := k.2
    refine sp_idiv 16 rfl n1_ rfl ?_
    refine sp_iconst 17 rfl rfl ?_
    refine sp_irem 18 rfl (by decide) rfl ?_
    refine sp_iconst 19 rfl rfl ?_
    refine sp_ic_ne 22 rfl rfl (fun q => ?_) (fun q => ?_)
    · have k := k.2 q
      refine sp_iconst 27 rfl rfl ?_
      exact st_zret rfl rfl (by decide) (Nat.le_refl _) (Nat.le_refl _) k
    · have k := k.1 q
      refine sp_iconst 23 rfl rfl ?_
      refine sp_goto rfl ?_
      exact st_zret rfl rfl (by decide) (Nat.le_refl _) (Nat.le_refl _) k
theorem sg_X2_add {SL : Nat} {xs : Nat → Int32} {d : Nat} {p s q : Nat} {Q : Option Value → mm_H → Prop} {a0 : Int32} {a1 : Int32} {I : Nat → Nat → Int32} {J : Nat → Nat → Int64}  (k : ((a0 < Int32.ofInt 0 → Q none (hp p s q I J)) ∧ (¬ (a0 < Int32.ofInt 0) → (((Int32.ofInt 60) ≤ a0 → Q none (hp p s q I J)) ∧ (¬ ((Int32.ofInt 60) ≤ a0) → (vp_in a0 60 ∧ Q none (hp p s q (mm_u (mm_u I 32 ((a0).toNatClampNeg) ((I 32 ((a0).toNatClampNeg)) + a1)) 31 1 ((I 31 1) + a1)) J))))))) : mm_s SL xs (d + 1) 26 [.ref 31, .int a0, .int a1] (hp p s q I J) Q := by
  refine e_X2_add rfl ?_
  refine sp_iload_n 1 rfl rfl rfl ?_
  refine sp_if_lt 4 rfl rfl (fun q => ?_) (fun q => ?_)
  · have k := k.1 q
    exact st_vret rfl rfl (Nat.le_refl _) (Nat.le_refl _) k
  · have k := k.2 q
    refine sp_iload_n 5 rfl rfl rfl ?_
    refine sp_bipush 7 rfl rfl ?_
    refine sp_I (y := Int32.ofInt 60) rfl ?_
    refine sp_ic_ge 10 rfl rfl (fun q => ?_) (fun q => ?_)
    · have k := k.1 q
      exact st_vret rfl rfl (Nat.le_refl _) (Nat.le_refl _) k
    · have k := k.2 q
      refine sp_aload_n 11 rfl rfl rfl ?_
      refine hq_getR 14 rfl rfl rfl rfl ?_
      refine sp_iload_n 15 rfl rfl rfl ?_
      refine sp_dup2 16 rfl rfl rfl rfl ?_
      have n1_ := k.1
      have k := k.2
      refine hq_iald 17 rfl rfl n1_ rfl ?_
      refine sp_iload_n 18 rfl rfl rfl ?_
      refine sp_iadd 19 rfl rfl ?_
      refine hq_iast 20 rfl rfl n1_ rfl ?_
      refine sp_aload_n 21 rfl rfl rfl ?_
      refine sp_dup 22 rfl rfl rfl ?_
      refine hq_getI 25 rfl rfl rfl ?_
      refine sp_I (y := (I 31 1)) (by simp [mm_u]) ?_
      refine sp_iload_n 26 rfl rfl rfl ?_
      refine sp_iadd 27 rfl rfl ?_
      refine hq_putI 30 rfl rfl rfl ?_
      exact st_vret rfl rfl (Nat.le_refl _) (Nat.le_refl _) k
theorem sg_X2_weightAt {SL : Nat} {xs : Nat → Int32} {d : Nat} {p s q : Nat} {Q : Option Value → mm_H → Prop} {a0 : Int32} {I : Nat → Nat → Int32} {J : Nat → Nat → Int64}  (k : ((a0 < Int32.ofInt 0 → Q (some (.int (Int32.ofInt 0))) (hp p s q I J)) ∧ (¬ (a0 < Int32.ofInt 0) → (((Int32.ofInt 60) ≤ a0 → Q (some (.int (Int32.ofInt 0))) (hp p s q I J)) ∧ (¬ ((Int32.ofInt 60) ≤ a0) → (vp_in a0 60 ∧ Q (some (.int (I 32 ((a0).toNatClampNeg)))) (hp p s q I J))))))) : mm_s SL xs (d + 1) 29 [.ref 31, .int a0] (hp p s q I J) Q := by
  refine e_X2_weightAt rfl ?_
  refine sp_iload_n 1 rfl rfl rfl ?_
  refine sp_if_lt 4 rfl rfl (fun q => ?_) (fun q => ?_)
  · have k := k.1 q
    refine sp_iconst 20 rfl rfl ?_
    exact st_iret rfl rfl (Nat.le_refl _) (Nat.le_refl _) k
  · have k := k.2 q
    refine sp_iload_n 5 rfl rfl rfl ?_
    refine sp_bipush 7 rfl rfl ?_
    refine sp_I (y := Int32.ofInt 60) rfl ?_
    refine sp_ic_ge 10 rfl rfl (fun q => ?_) (fun q => ?_)
    · have k := k.1 q
      refine sp_iconst 20 rfl rfl ?_
      exact st_iret rfl rfl (Nat.le_refl _) (Nat.le_refl _) k
    · have k := k.2 q
      refine sp_aload_n 11 rfl rfl rfl ?_
      refine hq_getR 14 rfl rfl rfl rfl ?_
      refine sp_iload_n 15 rfl rfl rfl ?_
      have n1_ := k.1
      have k := k.2
      refine hq_iald 16 rfl rfl n1_ rfl ?_
      refine sp_goto rfl ?_
      exact st_iret rfl rfl (Nat.le_refl _) (Nat.le_refl _) k
def w_X3_firstWrong_2 (SL : Nat) (xs : Nat → Int32) (d : Nat) (p s q : Nat) (Q : Option Value → mm_H → Prop) (a0 : Nat) (v2 : Int32) (I : Nat → Nat → Int32) (J : Nat → Nat → Int64) : Prop := mm_w SL xs (mm_s SL xs (d + 0)) mm_am kX3_firstWrong 0 0 (some .int) Q 2 [some (.ref 29), some (.ref a0), some (.int v2)] [] (hp p s q I J) 0 0
theorem sg_X3_firstWrong {SL : Nat} {xs : Nat → Int32} {d : Nat} {p s q : Nat} {Q : Option Value → mm_H → Prop} {a0 : Nat} {I : Nat → Nat → Int32} {J : Nat → Nat → Int64}  (k : w_X3_firstWrong_2 SL xs d p s q Q a0 (Int32.ofInt 0) I J) : mm_s SL xs (d + 1) 34 [.ref 29, .ref a0] (hp p s q I J) Q := by
  refine e_X3_firstWrong rfl ?_
  refine sp_iconst 1 rfl rfl ?_
  refine sp_istore_n 2 rfl rfl rfl ?_
  exact k
theorem sg_X3_firstWrong_2 {SL : Nat} {xs : Nat → Int32} {d : Nat} {p s q : Nat} {Q : Option Value → mm_H → Prop} {a0 : Nat} {v2 : Int32} {I : Nat → Nat → Int32} {J : Nat → Nat → Int64} (h_a0 : isC a0) (k : (((I 29 1) ≤ v2 → Q (some (.int (Int32.ofInt (-1)))) (hp p s q I J)) ∧ (¬ ((I 29 1) ≤ v2) → (((Int32.ofInt 60) ≤ v2 → Q (some (.int (Int32.ofInt (-1)))) (hp p s q I J)) ∧ (¬ ((Int32.ofInt 60) ≤ v2) → (((I a0 5) ≤ v2 → Q (some (.int v2)) (hp p s q I J)) ∧ (¬ ((I a0 5) ≤ v2) → (vp_in v2 60 ∧ (((I (a0 + 3) ((v2).toNatClampNeg)) = (I 30 ((v2).toNatClampNeg)) → w_X3_firstWrong_2 SL xs d p s q Q a0 (v2 + Int32.ofInt 1) I J) ∧ (¬ ((I (a0 + 3) ((v2).toNatClampNeg)) = (I 30 ((v2).toNatClampNeg))) → Q (some (.int v2)) (hp p s q I J))))))))))) : w_X3_firstWrong_2 SL xs d p s q Q a0 v2 I J := by
  unfold w_X3_firstWrong_2
  refine sp_iload_n 3 rfl rfl rfl ?_
  refine sp_aload_n 4 rfl rfl rfl ?_
  refine hq_getI 7 rfl rfl rfl ?_
  refine sp_ic_ge 10 rfl rfl (fun q => ?_) (fun q => ?_)
  · have k := k.1 q
    refine sp_iconst 48 rfl rfl ?_
    exact st_iret rfl rfl (Nat.le_refl _) (Nat.le_refl _) k
  · have k := k.2 q
    refine sp_iload_n 11 rfl rfl rfl ?_
    refine sp_bipush 13 rfl rfl ?_
    refine sp_I (y := Int32.ofInt 60) rfl ?_
    refine sp_ic_ge 16 rfl rfl (fun q => ?_) (fun q => ?_)
    · have k := k.1 q
      refine sp_iconst 48 rfl rfl ?_
      exact st_iret rfl rfl (Nat.le_refl _) (Nat.le_refl _) k
    · have k := k.2 q
      refine sp_iload_n 17 rfl rfl rfl ?_
      refine sp_aload_n 18 rfl rfl rfl ?_
      refine hq_getI 21 rfl (kC0 h_a0) rfl ?_
      refine sp_ic_ge 24 rfl rfl (fun q => ?_) (fun q => ?_)
      · have k := k.1 q
        refine sp_iload_n 40 rfl rfl rfl ?_
        exact st_iret rfl rfl (Nat.le_refl _) (Nat.le_refl _) k
      · have k := k.2 q
        refine sp_aload_n 25 rfl rfl rfl ?_
        refine hq_getR 28 rfl (kC0 h_a0) (rC3 h_a0) rfl ?_
        refine sp_iload_n 29 rfl rfl rfl ?_
        have n1_ := k.1
        have k := k.2
        refine hq_iald 30 rfl (kC3 h_a0) n1_ rfl ?_
        refine sp_aload_n 31 rfl rfl rfl ?_
        refine hq_getR 34 rfl rfl rfl rfl ?_
        refine sp_iload_n 35 rfl rfl rfl ?_
        refine hq_iald 36 rfl rfl n1_ rfl ?_
        refine sp_ic_eq 39 rfl rfl (fun q => ?_) (fun q => ?_)
        · have k := k.1 q
          refine sp_iinc 44 rfl rfl rfl rfl ?_
          refine sp_goto rfl ?_
          exact k
        · have k := k.2 q
          refine sp_iload_n 40 rfl rfl rfl ?_
          exact st_iret rfl rfl (Nat.le_refl _) (Nat.le_refl _) k
def w_X3_withRemainder_3 (SL : Nat) (xs : Nat → Int32) (d : Nat) (p s q : Nat) (Q : Option Value → mm_H → Prop) (v0 : Int64) (v2 : Int64) (v4 : Int32) (v5 : Int32) (v6 : Int32) (I : Nat → Nat → Int32) (J : Nat → Nat → Int64) : Prop := mm_w SL xs (mm_s SL xs (d + 0)) mm_am kX3_withRemainder 0 0 (some .long) Q 3 [some (.long v0), none, some (.long v2), none, some (.int v4), some (.int v5), some (.int v6), none, none] [] (hp p s q I J) 0 0
theorem sg_X3_withRemainder {SL : Nat} {xs : Nat → Int32} {d : Nat} {p s q : Nat} {Q : Option Value → mm_H → Prop} {a0 : Int64} {a1 : Int64} {a2 : Int32} {a3 : Int32} {I : Nat → Nat → Int32} {J : Nat → Nat → Int64}  (k : w_X3_withRemainder_3 SL xs d p s q Q a0 a1 a2 a3 (Int32.ofInt 0) I J) : mm_s SL xs (d + 1) 36 [.long a0, .long a1, .int a2, .int a3] (hp p s q I J) Q := by
  refine e_X3_withRemainder rfl ?_
  refine sp_iconst 1 rfl rfl ?_
  refine sp_istore 3 rfl rfl rfl ?_
  exact k
theorem sg_X3_withRemainder_3 {SL : Nat} {xs : Nat → Int32} {d : Nat} {p s q : Nat} {Q : Option Value → mm_H → Prop} {v0 : Int64} {v2 : Int64} {v4 : Int32} {v5 : Int32} {v6 : Int32} {I : Nat → Nat → Int32} {J : Nat → Nat → Int64}  (k : ((v5 ≤ v6 → Q (some (.long (Int64.ofInt (-1)))) (hp p s q I J)) ∧ (¬ (v5 ≤ v6) → (¬ ((v5).toInt64) = 0 ∧ ((((v0 + (v2 * ((v6).toInt64))) - (v0 + (v2 * ((v6).toInt64))) / ((v5).toInt64) * ((v5).toInt64)) = ((v4).toInt64) → Q (some (.long (v0 + (v2 * ((v6).toInt64))))) (hp p s q I J)) ∧ (¬ (((v0 + (v2 * ((v6).toInt64))) - (v0 + (v2 * ((v6).toInt64))) / ((v5).toInt64) * ((v5).toInt64)) = ((v4).toInt64)) → w_X3_withRemainder_3 SL xs d p s q Q v0 v2 v4 v5 (v6 + Int32.ofInt 1) I J)))))) : w_X3_withRemainder_3 SL xs d p s q Q v0 v2 v4 v5 v6 I J := by
  unfold w_X3_withRemainder_3
  refine sp_iload 5 rfl rfl rfl ?_
  refine sp_iload 7 rfl rfl rfl ?_
  refine sp_ic_ge 10 rfl rfl (fun q => ?_) (fun q => ?_)
  · have k := k.1 q
    refine sp_ldc2 44 rfl rfl ?_
    exact st_lret rfl rfl (Nat.le_refl _) (Nat.le_refl _) k
  · have k := k.2 q
    refine sp_lload_n 11 rfl rfl rfl ?_
    refine sp_lload_n 12 rfl rfl rfl ?_
    refine sp_iload 14 rfl rfl rfl ?_
    refine sp_i2l 15 rfl rfl ?_
    refine sp_lmul 16 rfl rfl ?_
    refine sp_ladd 17 rfl rfl ?_
    refine sp_lstore 19 rfl rfl rfl ?_
    refine sp_lload 21 rfl rfl rfl ?_
    refine sp_iload 23 rfl rfl rfl ?_
    refine sp_i2l 24 rfl rfl ?_
    have n1_ := k.1
    have k := k.2
    refine sp_lrem 25 rfl n1_ rfl ?_
    refine sp_iload 27 rfl rfl rfl ?_
    refine sp_i2l 28 rfl rfl ?_
    refine sp_lcmp 29 rfl rfl ?_
    refine sp_if_ne 32 rfl rfl (fun q => ?_) (fun q => ?_)
    · have k := k.2 (fun z => q ((lg_cmp_eq _ _).mpr z))
      refine sp_iinc 38 rfl rfl rfl rfl ?_
      refine sp_goto rfl ?_
      refine st_wk (L1 := [some (.long v0), none, some (.long v2), none, some (.int v4), some (.int v5), some (.int (v6 + Int32.ofInt 1)), none, none]) ⟨.inr rfl, .inl rfl, .inr rfl, .inl rfl, .inr rfl, .inr rfl, .inr rfl, .inl rfl, .inl rfl, trivial⟩ ?_
      exact k
    · have k := k.1 ((lg_cmp_eq _ _).mp q)
      refine sp_lload 34 rfl rfl rfl ?_
      exact st_lret rfl rfl (Nat.le_refl _) (Nat.le_refl _) k
def w_X4_goer_25 (SL : Nat) (xs : Nat → Int32) (d : Nat) (p s q : Nat) (Q : Option Value → mm_H → Prop) (v0 : Int32) (v1 : Int32) (v2 : Int32) (v3 : Int32) (v4 : Int32) (v5 : Int32) (I : Nat → Nat → Int32) (J : Nat → Nat → Int64) : Prop := mm_w SL xs (mm_s SL xs (d + 0)) mm_am kX4_goer 0 0 (some .int) Q 25 [some (.int v0), some (.int v1), some (.int v2), some (.int v3), some (.int v4), some (.int v5)] [] (hp p s q I J) 0 0
theorem sg_X4_goer {SL : Nat} {xs : Nat → Int32} {d : Nat} {p s q : Nat} {Q : Option Value → mm_H → Prop} {a0 : Int32} {a1 : Int32} {a2 : Int32} {I : Nat → Nat → Int32} {J : Nat → Nat → Int64}  (k : (((Int32.ofInt 1) ≤ ((a0 - a2) + (Int32.ofInt 1)) → (¬ ((a0 - a2) + (Int32.ofInt 1)) = 0 ∧ w_X4_goer_25 SL xs d p s q Q a0 a1 a2 ((a0 - a2) + (Int32.ofInt 1)) ((a1 - (Int32.ofInt 1)) - (a1 - (Int32.ofInt 1)) / ((a0 - a2) + (Int32.ofInt 1)) * ((a0 - a2) + (Int32.ofInt 1))) (((a0 - a2) + (Int32.ofInt 1)) + (Int32.ofInt 1)) I J)) ∧ (¬ ((Int32.ofInt 1) ≤ ((a0 - a2) + (Int32.ofInt 1))) → Q (some (.int (Int32.ofInt (-1)))) (hp p s q I J)))) : mm_s SL xs (d + 1) 40 [.int a0, .int a1, .int a2] (hp p s q I J) Q := by
  refine e_X4_goer rfl ?_
  refine sp_iload_n 1 rfl rfl rfl ?_
  refine sp_iload_n 2 rfl rfl rfl ?_
  refine sp_isub 3 rfl rfl ?_
  refine sp_iconst 4 rfl rfl ?_
  refine sp_iadd 5 rfl rfl ?_
  refine sp_istore_n 6 rfl rfl rfl ?_
  refine sp_iload_n 7 rfl rfl rfl ?_
  refine sp_iconst 8 rfl rfl ?_
  refine sp_ic_ge 11 rfl rfl (fun q => ?_) (fun q => ?_)
  · have k := k.1 q
    refine sp_iload_n 14 rfl rfl rfl ?_
    refine sp_iconst 15 rfl rfl ?_
    refine sp_isub 16 rfl rfl ?_
    refine sp_iload_n 17 rfl rfl rfl ?_
    have n1_ := k.1
    have k := k.2
    refine sp_irem 18 rfl n1_ rfl ?_
    refine sp_istore 20 rfl rfl rfl ?_
    refine sp_iload_n 21 rfl rfl rfl ?_
    refine sp_iconst 22 rfl rfl ?_
    refine sp_iadd 23 rfl rfl ?_
    refine sp_istore 25 rfl rfl rfl ?_
    exact k
  · have k := k.2 q
    refine sp_iconst 12 rfl rfl ?_
    exact st_iret rfl rfl (Nat.le_refl _) (Nat.le_refl _) k
theorem sg_X4_goer_25 {SL : Nat} {xs : Nat → Int32} {d : Nat} {p s q : Nat} {Q : Option Value → mm_H → Prop} {v0 : Int32} {v1 : Int32} {v2 : Int32} {v3 : Int32} {v4 : Int32} {v5 : Int32} {I : Nat → Nat → Int32} {J : Nat → Nat → Int64}  (k : ((v0 < v5 → Q (some (.int v4)) (hp p s q I J)) ∧ (¬ (v0 < v5) → (¬ v5 = 0 ∧ w_X4_goer_25 SL xs d p s q Q v0 v1 v2 v3 ((v4 + v1) - (v4 + v1) / v5 * v5) (v5 + Int32.ofInt 1) I J)))) : w_X4_goer_25 SL xs d p s q Q v0 v1 v2 v3 v4 v5 I J := by
  unfold w_X4_goer_25
  refine sp_iload 27 rfl rfl rfl ?_
  refine sp_iload_n 28 rfl rfl rfl ?_
  refine sp_ic_gt 31 rfl rfl (fun q => ?_) (fun q => ?_)
  · have k := k.1 q
    refine sp_iload 48 rfl rfl rfl ?_
    exact st_iret rfl rfl (Nat.le_refl _) (Nat.le_refl _) k
  · have k := k.2 q
    refine sp_iload 33 rfl rfl rfl ?_
    refine sp_iload_n 34 rfl rfl rfl ?_
    refine sp_iadd 35 rfl rfl ?_
    refine sp_iload 37 rfl rfl rfl ?_
    have n2_ := k.1
    have k := k.2
    refine sp_irem 38 rfl n2_ rfl ?_
    refine sp_istore 40 rfl rfl rfl ?_
    refine sp_iinc 43 rfl rfl rfl rfl ?_
    refine sp_goto rfl ?_
    exact k
def w_X4_farGoer_9 (SL : Nat) (xs : Nat → Int32) (d : Nat) (p s q : Nat) (Q : Option Value → mm_H → Prop) (v0 : Int64) (v2 : Int32) (v3 : Int64) (v5 : Int64) (v7 : Int32) (I : Nat → Nat → Int32) (J : Nat → Nat → Int64) : Prop := mm_w SL xs (mm_s SL xs (d + 0)) mm_am kX4_farGoer 0 0 (some .long) Q 9 [some (.long v0), none, some (.int v2), some (.long v3), none, some (.long v5), none, some (.int v7)] [] (hp p s q I J) 0 0
theorem sg_X4_farGoer {SL : Nat} {xs : Nat → Int32} {d : Nat} {p s q : Nat} {Q : Option Value → mm_H → Prop} {a0 : Int64} {a1 : Int32} {a2 : Int64} {I : Nat → Nat → Int32} {J : Nat → Nat → Int64}  (k : w_X4_farGoer_9 SL xs d p s q Q a0 a1 a2 (a2 * ((a1).toInt64)) (Int32.ofInt 0) I J) : mm_s SL xs (d + 1) 41 [.long a0, .int a1, .long a2] (hp p s q I J) Q := by
  refine e_X4_farGoer rfl ?_
  refine sp_lload_n 1 rfl rfl rfl ?_
  refine sp_iload_n 2 rfl rfl rfl ?_
  refine sp_i2l 3 rfl rfl ?_
  refine sp_lmul 4 rfl rfl ?_
  refine sp_lstore 6 rfl rfl rfl ?_
  refine sp_iconst 7 rfl rfl ?_
  refine sp_istore 9 rfl rfl rfl ?_
  exact k
theorem sg_X4_farGoer_9 {SL : Nat} {xs : Nat → Int32} {d : Nat} {p s q : Nat} {Q : Option Value → mm_H → Prop} {v0 : Int64} {v2 : Int32} {v3 : Int64} {v5 : Int64} {v7 : Int32} {I : Nat → Nat → Int32} {J : Nat → Nat → Int64}  (k : (((Int32.ofInt 1000000) ≤ v7 → Q (some (.long (v5 - (Int64.ofInt 1)))) (hp p s q I J)) ∧ (¬ ((Int32.ofInt 1000000) ≤ v7) → ((v5 ≤ v0 → Q (some (.long (v5 - (Int64.ofInt 1)))) (hp p s q I J)) ∧ (¬ (v5 ≤ v0) → ((v2 ≤ (Int32.ofInt 1) → Q (some (.long (v5 - (Int64.ofInt 1)))) (hp p s q I J)) ∧ (¬ (v2 ≤ (Int32.ofInt 1)) → (¬ (((v2 - (Int32.ofInt 1))).toInt64) = 0 ∧ w_X4_farGoer_9 SL xs d p s q Q v0 v2 v3 ((v5 - v0) + (((v5 - v0) - (Int64.ofInt 1)) / (((v2 - (Int32.ofInt 1))).toInt64))) (v7 + Int32.ofInt 1) I J)))))))) : w_X4_farGoer_9 SL xs d p s q Q v0 v2 v3 v5 v7 I J := by
  unfold w_X4_farGoer_9
  refine sp_iload 11 rfl rfl rfl ?_
  refine sp_ldc 13 rfl rfl ?_
  refine sp_ic_ge 16 rfl rfl (fun q => ?_) (fun q => ?_)
  · have k := k.1 q
    refine sp_lload 54 rfl rfl rfl ?_
    refine sp_lconst 55 rfl rfl ?_
    refine sp_J (y := Int64.ofInt 1) rfl ?_
    refine sp_lsub 56 rfl rfl ?_
    exact st_lret rfl rfl (Nat.le_refl _) (Nat.le_refl _) k
  · have k := k.2 q
    refine sp_lload 18 rfl rfl rfl ?_
    refine sp_lload_n 19 rfl rfl rfl ?_
    refine sp_lcmp 20 rfl rfl ?_
    refine sp_if_le 23 rfl rfl (fun q => ?_) (fun q => ?_)
    · have k := k.1 ((lg_cmp_le _ _).mp q)
      refine sp_lload 54 rfl rfl rfl ?_
      refine sp_lconst 55 rfl rfl ?_
      refine sp_J (y := Int64.ofInt 1) rfl ?_
      refine sp_lsub 56 rfl rfl ?_
      exact st_lret rfl rfl (Nat.le_refl _) (Nat.le_refl _) k
    · have k := k.2 (fun z => q ((lg_cmp_le _ _).mpr z))
      refine sp_iload_n 24 rfl rfl rfl ?_
      refine sp_iconst 25 rfl rfl ?_
      refine sp_ic_le 28 rfl rfl (fun q => ?_) (fun q => ?_)
      · have k := k.1 q
        refine sp_lload 54 rfl rfl rfl ?_
        refine sp_lconst 55 rfl rfl ?_
        refine sp_J (y := Int64.ofInt 1) rfl ?_
        refine sp_lsub 56 rfl rfl ?_
        exact st_lret rfl rfl (Nat.le_refl _) (Nat.le_refl _) k
      · have k := k.2 q
        refine sp_lload 30 rfl rfl rfl ?_
        refine sp_lload_n 31 rfl rfl rfl ?_
        refine sp_lsub 32 rfl rfl ?_
        refine sp_lload 34 rfl rfl rfl ?_
        refine sp_lload_n 35 rfl rfl rfl ?_
        refine sp_lsub 36 rfl rfl ?_
        refine sp_lconst 37 rfl rfl ?_
        refine sp_J (y := Int64.ofInt 1) rfl ?_
        refine sp_lsub 38 rfl rfl ?_
        refine sp_iload_n 39 rfl rfl rfl ?_
        refine sp_iconst 40 rfl rfl ?_
        refine sp_isub 41 rfl rfl ?_
        refine sp_i2l 42 rfl rfl ?_
        have n1_ := k.1
        have k := k.2
        refine sp_ldiv 43 rfl n1_ rfl ?_
        refine sp_ladd 44 rfl rfl ?_
        refine sp_lstore 46 rfl rfl rfl ?_
        refine sp_iinc 49 rfl rfl rfl rfl ?_
        refine sp_goto rfl ?_
        exact k
def w_X4_placeOf_17 (SL : Nat) (xs : Nat → Int32) (d : Nat) (p s q : Nat) (Q : Option Value → mm_H → Prop) (v0 : Int64) (v2 : Int32) (v3 : Int64) (v5 : Int64) (v7 : Int32) (I : Nat → Nat → Int32) (J : Nat → Nat → Int64) : Prop := mm_w SL xs (mm_s SL xs (d + 0)) mm_am kX4_placeOf 0 0 (some .long) Q 17 [some (.long v0), none, some (.int v2), some (.long v3), none, some (.long v5), none, some (.int v7)] [] (hp p s q I J) 0 0
theorem sg_X4_placeOf {SL : Nat} {xs : Nat → Int32} {d : Nat} {p s q : Nat} {Q : Option Value → mm_H → Prop} {a0 : Int64} {a1 : Int32} {a2 : Int64} {I : Nat → Nat → Int32} {J : Nat → Nat → Int64}  (k : (((Int32.ofInt 1) ≤ a1 → w_X4_placeOf_17 SL xs d p s q Q a0 a1 a2 (a2 + (Int64.ofInt 1)) (Int32.ofInt 0) I J) ∧ (¬ ((Int32.ofInt 1) ≤ a1) → Q (some (.long (Int64.ofInt (-1)))) (hp p s q I J)))) : mm_s SL xs (d + 1) 42 [.long a0, .int a1, .long a2] (hp p s q I J) Q := by
  refine e_X4_placeOf rfl ?_
  refine sp_iload_n 1 rfl rfl rfl ?_
  refine sp_iconst 2 rfl rfl ?_
  refine sp_ic_ge 5 rfl rfl (fun q => ?_) (fun q => ?_)
  · have k := k.1 q
    refine sp_lload_n 10 rfl rfl rfl ?_
    refine sp_lconst 11 rfl rfl ?_
    refine sp_J (y := Int64.ofInt 1) rfl ?_
    refine sp_ladd 12 rfl rfl ?_
    refine sp_lstore 14 rfl rfl rfl ?_
    refine sp_iconst 15 rfl rfl ?_
    refine sp_istore 17 rfl rfl rfl ?_
    exact k
  · have k := k.2 q
    refine sp_ldc2 8 rfl rfl ?_
    exact st_lret rfl rfl (Nat.le_refl _) (Nat.le_refl _) k
theorem sg_X4_placeOf_17 {SL : Nat} {xs : Nat → Int32} {d : Nat} {p s q : Nat} {Q : Option Value → mm_H → Prop} {v0 : Int64} {v2 : Int32} {v3 : Int64} {v5 : Int64} {v7 : Int32} {I : Nat → Nat → Int32} {J : Nat → Nat → Int64}  (k : (((Int32.ofInt 1000000) ≤ v7 → (¬ ((v2).toInt64) = 0 ∧ Q (some (.long (v5 / ((v2).toInt64)))) (hp p s q I J))) ∧ (¬ ((Int32.ofInt 1000000) ≤ v7) → (¬ ((v2).toInt64) = 0 ∧ (((v5 - v5 / ((v2).toInt64) * ((v2).toInt64)) = (Int64.ofInt 0) → Q (some (.long (v5 / ((v2).toInt64)))) (hp p s q I J)) ∧ (¬ ((v5 - v5 / ((v2).toInt64) * ((v2).toInt64)) = (Int64.ofInt 0)) → w_X4_placeOf_17 SL xs d p s q Q v0 v2 v3 ((v0 + v5) - (v5 / ((v2).toInt64))) (v7 + Int32.ofInt 1) I J)))))) : w_X4_placeOf_17 SL xs d p s q Q v0 v2 v3 v5 v7 I J := by
  unfold w_X4_placeOf_17
  refine sp_iload 19 rfl rfl rfl ?_
  refine sp_ldc 21 rfl rfl ?_
  refine sp_ic_ge 24 rfl rfl (fun q => ?_) (fun q => ?_)
  · have k := k.1 q
    refine sp_lload 54 rfl rfl rfl ?_
    refine sp_iload_n 55 rfl rfl rfl ?_
    refine sp_i2l 56 rfl rfl ?_
    have n1_ := k.1
    have k := k.2
    refine sp_ldiv 57 rfl n1_ rfl ?_
    exact st_lret rfl rfl (Nat.le_refl _) (Nat.le_refl _) k
  · have k := k.2 q
    refine sp_lload 26 rfl rfl rfl ?_
    refine sp_iload_n 27 rfl rfl rfl ?_
    refine sp_i2l 28 rfl rfl ?_
    have n2_ := k.1
    have k := k.2
    refine sp_lrem 29 rfl n2_ rfl ?_
    refine sp_lconst 30 rfl rfl ?_
    refine sp_J (y := Int64.ofInt 0) rfl ?_
    refine sp_lcmp 31 rfl rfl ?_
    refine sp_if_eq 34 rfl rfl (fun q => ?_) (fun q => ?_)
    · have k := k.1 ((lg_cmp_eq _ _).mp q)
      refine sp_lload 54 rfl rfl rfl ?_
      refine sp_iload_n 55 rfl rfl rfl ?_
      refine sp_i2l 56 rfl rfl ?_
      refine sp_ldiv 57 rfl n2_ rfl ?_
      exact st_lret rfl rfl (Nat.le_refl _) (Nat.le_refl _) k
    · have k := k.2 (fun z => q ((lg_cmp_eq _ _).mpr z))
      refine sp_lload_n 35 rfl rfl rfl ?_
      refine sp_lload 37 rfl rfl rfl ?_
      refine sp_ladd 38 rfl rfl ?_
      refine sp_lload 40 rfl rfl rfl ?_
      refine sp_iload_n 41 rfl rfl rfl ?_
      refine sp_i2l 42 rfl rfl ?_
      refine sp_ldiv 43 rfl n2_ rfl ?_
      refine sp_lsub 44 rfl rfl ?_
      refine sp_lstore 46 rfl rfl rfl ?_
      refine sp_iinc 49 rfl rfl rfl rfl ?_
      refine sp_goto rfl ?_
      exact k
def w_X4_sizeKeeping_8 (SL : Nat) (xs : Nat → Int32) (d : Nat) (p s q : Nat) (Q : Option Value → mm_H → Prop) (v0 : Int32) (v1 : Int32) (v2 : Int32) (v3 : Int32) (v4 : Int32) (v5 : Int32) (I : Nat → Nat → Int32) (J : Nat → Nat → Int64) : Prop := mm_w SL xs (mm_s SL xs (d + 0)) mm_am kX4_sizeKeeping 0 0 (some .int) Q 8 [some (.int v0), some (.int v1), some (.int v2), some (.int v3), some (.int v4), some (.int v5)] [] (hp p s q I J) 0 0
theorem sg_X4_sizeKeeping {SL : Nat} {xs : Nat → Int32} {d : Nat} {p s q : Nat} {Q : Option Value → mm_H → Prop} {a0 : Int32} {a1 : Int32} {a2 : Int32} {I : Nat → Nat → Int32} {J : Nat → Nat → Int64}  (k : w_X4_sizeKeeping_8 SL xs d p s q Q a0 a1 a2 (Int32.ofInt 0) (Int32.ofInt 0) (Int32.ofInt 1) I J) : mm_s SL xs (d + 1) 43 [.int a0, .int a1, .int a2] (hp p s q I J) Q := by
  refine e_X4_sizeKeeping rfl ?_
  refine sp_iconst 1 rfl rfl ?_
  refine sp_istore_n 2 rfl rfl rfl ?_
  refine sp_iconst 3 rfl rfl ?_
  refine sp_istore 5 rfl rfl rfl ?_
  refine sp_iconst 6 rfl rfl ?_
  refine sp_istore 8 rfl rfl rfl ?_
  exact k
theorem sg_X4_sizeKeeping_8 {SL : Nat} {xs : Nat → Int32} {d : Nat} {p s q : Nat} {Q : Option Value → mm_H → Prop} {v0 : Int32} {v1 : Int32} {v2 : Int32} {v3 : Int32} {v4 : Int32} {v5 : Int32} {I : Nat → Nat → Int32} {J : Nat → Nat → Int64}  (k : (((Int32.ofInt 5000) < v5 → Q (some (.int (Int32.ofInt (-1)))) (hp p s q I J)) ∧ (¬ ((Int32.ofInt 5000) < v5) → (¬ v5 = 0 ∧ ((((v4 + v0) - (v4 + v0) / v5 * v5) = v1 → ((v3 = v2 → Q (some (.int v5)) (hp p s q I J)) ∧ (¬ (v3 = v2) → w_X4_sizeKeeping_8 SL xs d p s q Q v0 v1 v2 (v3 + Int32.ofInt 1) ((v4 + v0) - (v4 + v0) / v5 * v5) (v5 + Int32.ofInt 1) I J))) ∧ (¬ (((v4 + v0) - (v4 + v0) / v5 * v5) = v1) → w_X4_sizeKeeping_8 SL xs d p s q Q v0 v1 v2 v3 ((v4 + v0) - (v4 + v0) / v5 * v5) (v5 + Int32.ofInt 1) I J)))))) : w_X4_sizeKeeping_8 SL xs d p s q Q v0 v1 v2 v3 v4 v5 I J := by
  unfold w_X4_sizeKeeping_8
  refine sp_iload 10 rfl rfl rfl ?_
  refine sp_sipush 13 rfl rfl ?_
  refine sp_I (y := Int32.ofInt 5000) rfl ?_
  refine sp_ic_gt 16 rfl rfl (fun q => ?_) (fun q => ?_)
  · have k := k.1 q
    refine sp_iconst 49 rfl rfl ?_
    exact st_iret rfl rfl (Nat.le_refl _) (Nat.le_refl _) k
  · have k := k.2 q
    refine sp_iload 18 rfl rfl rfl ?_
    refine sp_iload_n 19 rfl rfl rfl ?_
    refine sp_iadd 20 rfl rfl ?_
    refine sp_iload 22 rfl rfl rfl ?_
    have n1_ := k.1
    have k := k.2
    refine sp_irem 23 rfl n1_ rfl ?_
    refine sp_istore 25 rfl rfl rfl ?_
    refine sp_iload 27 rfl rfl rfl ?_
    refine sp_iload_n 28 rfl rfl rfl ?_
    refine sp_ic_ne 31 rfl rfl (fun q => ?_) (fun q => ?_)
    · have k := k.2 q
      refine sp_iinc 45 rfl rfl rfl rfl ?_
      refine sp_goto rfl ?_
      exact k
    · have k := k.1 q
      refine sp_iload_n 32 rfl rfl rfl ?_
      refine sp_iload_n 33 rfl rfl rfl ?_
      refine sp_ic_ne 36 rfl rfl (fun q => ?_) (fun q => ?_)
      · have k := k.2 q
        refine sp_iinc 42 rfl rfl rfl rfl ?_
        refine sp_iinc 45 rfl rfl rfl rfl ?_
        refine sp_goto rfl ?_
        exact k
      · have k := k.1 q
        refine sp_iload 38 rfl rfl rfl ?_
        exact st_iret rfl rfl (Nat.le_refl _) (Nat.le_refl _) k
def w_X4_greatestCommon_9 (SL : Nat) (xs : Nat → Int32) (d : Nat) (p s q : Nat) (Q : Option Value → mm_H → Prop) (v0 : Int64) (v2 : Int64) (v4 : Int64) (v6 : Int64) (v8 : Int32) (I : Nat → Nat → Int32) (J : Nat → Nat → Int64) : Prop := mm_w SL xs (mm_s SL xs (d + 0)) mm_am kX4_greatestCommon 0 0 (some .long) Q 9 [some (.long v0), none, some (.long v2), none, some (.long v4), none, some (.long v6), none, some (.int v8), none, none] [] (hp p s q I J) 0 0
theorem sg_X4_greatestCommon {SL : Nat} {xs : Nat → Int32} {d : Nat} {p s q : Nat} {Q : Option Value → mm_H → Prop} {a0 : Int64} {a1 : Int64} {I : Nat → Nat → Int32} {J : Nat → Nat → Int64}  (k : w_X4_greatestCommon_9 SL xs d p s q Q a0 a1 a0 a1 (Int32.ofInt 0) I J) : mm_s SL xs (d + 1) 46 [.long a0, .long a1] (hp p s q I J) Q := by
  refine e_X4_greatestCommon rfl ?_
  refine sp_lload_n 1 rfl rfl rfl ?_
  refine sp_lstore 3 rfl rfl rfl ?_
  refine sp_lload_n 4 rfl rfl rfl ?_
  refine sp_lstore 6 rfl rfl rfl ?_
  refine sp_iconst 7 rfl rfl ?_
  refine sp_istore 9 rfl rfl rfl ?_
  exact k
theorem sg_X4_greatestCommon_9 {SL : Nat} {xs : Nat → Int32} {d : Nat} {p s q : Nat} {Q : Option Value → mm_H → Prop} {v0 : Int64} {v2 : Int64} {v4 : Int64} {v6 : Int64} {v8 : Int32} {I : Nat → Nat → Int32} {J : Nat → Nat → Int64}  (k : (((Int32.ofInt 100) ≤ v8 → Q (some (.long v4)) (hp p s q I J)) ∧ (¬ ((Int32.ofInt 100) ≤ v8) → ((v6 = (Int64.ofInt 0) → Q (some (.long v4)) (hp p s q I J)) ∧ (¬ (v6 = (Int64.ofInt 0)) → (¬ v6 = 0 ∧ w_X4_greatestCommon_9 SL xs d p s q Q v0 v2 v6 (v4 - v4 / v6 * v6) (v8 + Int32.ofInt 1) I J)))))) : w_X4_greatestCommon_9 SL xs d p s q Q v0 v2 v4 v6 v8 I J := by
  unfold w_X4_greatestCommon_9
  refine sp_iload 11 rfl rfl rfl ?_
  refine sp_bipush 13 rfl rfl ?_
  refine sp_I (y := Int32.ofInt 100) rfl ?_
  refine sp_ic_ge 16 rfl rfl (fun q => ?_) (fun q => ?_)
  · have k := k.1 q
    refine sp_lload 46 rfl rfl rfl ?_
    exact st_lret rfl rfl (Nat.le_refl _) (Nat.le_refl _) k
  · have k := k.2 q
    refine sp_lload 18 rfl rfl rfl ?_
    refine sp_lconst 19 rfl rfl ?_
    refine sp_J (y := Int64.ofInt 0) rfl ?_
    refine sp_lcmp 20 rfl rfl ?_
    refine sp_if_eq 23 rfl rfl (fun q => ?_) (fun q => ?_)
    · have k := k.1 ((lg_cmp_eq _ _).mp q)
      refine sp_lload 46 rfl rfl rfl ?_
      exact st_lret rfl rfl (Nat.le_refl _) (Nat.le_refl _) k
    · have k := k.2 (fun z => q ((lg_cmp_eq _ _).mpr z))
      refine sp_lload 25 rfl rfl rfl ?_
      refine sp_lload 27 rfl rfl rfl ?_
      have n1_ := k.1
      have k := k.2
      refine sp_lrem 28 rfl n1_ rfl ?_
      refine sp_lstore 30 rfl rfl rfl ?_
      refine sp_lload 32 rfl rfl rfl ?_
      refine sp_lstore 34 rfl rfl rfl ?_
      refine sp_lload 36 rfl rfl rfl ?_
      refine sp_lstore 38 rfl rfl rfl ?_
      refine sp_iinc 41 rfl rfl rfl rfl ?_
      refine sp_goto rfl ?_
      refine st_wk (L1 := [some (.long v0), none, some (.long v2), none, some (.long v6), none, some (.long (v4 - v4 / v6 * v6)), none, some (.int (v8 + Int32.ofInt 1)), none, none]) ⟨.inr rfl, .inl rfl, .inr rfl, .inl rfl, .inr rfl, .inl rfl, .inr rfl, .inl rfl, .inr rfl, .inl rfl, .inl rfl, trivial⟩ ?_
      exact k
theorem sg_X5_clear {SL : Nat} {xs : Nat → Int32} {d : Nat} {p s q : Nat} {Q : Option Value → mm_H → Prop} {o : Nat} {I : Nat → Nat → Int32} {J : Nat → Nat → Int64} (h_o : isP o) (k : (vp_in (Int32.ofInt 0) 360 ∧ Q none (hp p s q (mm_u (mm_u (mm_u (mm_u (mm_u (mm_u (mm_u (mm_u (mm_u (mm_u (mm_u (mm_u (mm_u I o 0 (Int32.ofInt 1)) o 1 (Int32.ofInt 0)) o 2 (Int32.ofInt 1)) o 3 (Int32.ofInt 0)) o 4 (Int32.ofInt 0)) o 5 (Int32.ofInt (-1))) o 7 (Int32.ofInt 0)) o 8 (Int32.ofInt 0)) o 9 (Int32.ofInt 0)) o 10 (Int32.ofInt 0)) o 11 (Int32.ofInt 0)) (o + 5) (((Int32.ofInt 0)).toNatClampNeg) (Int32.ofInt 3)) o 17 (Int32.ofInt 1)) (mm_u J o 6 (Int64.ofInt 0))))) : mm_s SL xs (d + 1) 50 [.ref o] (hp p s q I J) Q := by
  refine e_X5_clear rfl ?_
  refine sp_aload_n 1 rfl rfl rfl ?_
  refine sp_iconst 2 rfl rfl ?_
  refine hq_putI 5 rfl (kP0 h_o) rfl ?_
  refine sp_aload_n 6 rfl rfl rfl ?_
  refine sp_iconst 7 rfl rfl ?_
  refine hq_putI 10 rfl (kP0 h_o) rfl ?_
  refine sp_aload_n 11 rfl rfl rfl ?_
  refine sp_iconst 12 rfl rfl ?_
  refine hq_putI 15 rfl (kP0 h_o) rfl ?_
  refine sp_aload_n 16 rfl rfl rfl ?_
  refine sp_iconst 17 rfl rfl ?_
  refine hq_putI 20 rfl (kP0 h_o) rfl ?_
  refine sp_aload_n 21 rfl rfl rfl ?_
  refine sp_iconst 22 rfl rfl ?_
  refine hq_putI 25 rfl (kP0 h_o) rfl ?_
  refine sp_aload_n 26 rfl rfl rfl ?_
  refine sp_iconst 27 rfl rfl ?_
  refine hq_putI 30 rfl (kP0 h_o) rfl ?_
  refine sp_aload_n 31 rfl rfl rfl ?_
  refine sp_lconst 32 rfl rfl ?_
  refine sp_J (y := Int64.ofInt 0) rfl ?_
  refine hq_putJ 35 rfl (kP0 h_o) rfl ?_
  refine sp_aload_n 36 rfl rfl rfl ?_
  refine sp_iconst 37 rfl rfl ?_
  refine hq_putI 40 rfl (kP0 h_o) rfl ?_
  refine sp_aload_n 41 rfl rfl rfl ?_
  refine sp_iconst 42 rfl rfl ?_
  refine hq_putI 45 rfl (kP0 h_o) rfl ?_
  refine sp_aload_n 46 rfl rfl rfl ?_
  refine sp_iconst 47 rfl rfl ?_
  refine hq_putI 50 rfl (kP0 h_o) rfl ?_
  refine sp_aload_n 51 rfl rfl rfl ?_
  refine sp_iconst 52 rfl rfl ?_
  refine hq_putI 55 rfl (kP0 h_o) rfl ?_
  refine sp_aload_n 56 rfl rfl rfl ?_
  refine sp_iconst 57 rfl rfl ?_
  refine hq_putI 60 rfl (kP0 h_o) rfl ?_
  refine sp_aload_n 61 rfl rfl rfl ?_
  refine hq_getR 64 rfl (kP0 h_o) (rP5 h_o) rfl ?_
  refine sp_iconst 65 rfl rfl ?_
  refine sp_iconst 66 rfl rfl ?_
  have n1_ := k.1
  have k := k.2
  refine hq_iast 67 rfl (kP5 h_o) n1_ rfl ?_
  refine sp_aload_n 68 rfl rfl rfl ?_
  refine sp_iconst 69 rfl rfl ?_
  refine hq_putI 72 rfl (kP0 h_o) rfl ?_
  exact st_vret rfl rfl (Nat.le_refl _) (Nat.le_refl _) k
theorem sg_X5_settle {SL : Nat} {xs : Nat → Int32} {d : Nat} {p s q : Nat} {Q : Option Value → mm_H → Prop} {o : Nat} {I : Nat → Nat → Int32} {J : Nat → Nat → Int64} (h_o : isP o) (k : (((I o 0) ≤ Int32.ofInt 0 → Q none (hp p s q I J)) ∧ (¬ ((I o 0) ≤ Int32.ofInt 0) → (¬ (I o 0) = 0 ∧ (((I o 5) = (Int32.ofInt (-1)) → Q none (hp p s q (mm_u (mm_u I o 1 ((I o 1) - (I o 1) / (I o 0) * (I o 0))) o 5 (Int32.ofInt (-1))) J)) ∧ (¬ ((I o 5) = (Int32.ofInt (-1))) → Q none (hp p s q (mm_u (mm_u I o 1 ((I o 1) - (I o 1) / (I o 0) * (I o 0))) o 5 ((I o 5) - (I o 5) / (I o 0) * (I o 0))) J))))))) : mm_s SL xs (d + 1) 51 [.ref o] (hp p s q I J) Q := by
  refine e_X5_settle rfl ?_
  refine sp_aload_n 1 rfl rfl rfl ?_
  refine hq_getI 4 rfl (kP0 h_o) rfl ?_
  refine sp_if_le 7 rfl rfl (fun q => ?_) (fun q => ?_)
  · have k := k.1 q
    exact st_vret rfl rfl (Nat.le_refl _) (Nat.le_refl _) k
  · have k := k.2 q
    refine sp_aload_n 8 rfl rfl rfl ?_
    refine sp_aload_n 9 rfl rfl rfl ?_
    refine hq_getI 12 rfl (kP0 h_o) rfl ?_
    refine sp_aload_n 13 rfl rfl rfl ?_
    refine hq_getI 16 rfl (kP0 h_o) rfl ?_
    have n1_ := k.1
    have k := k.2
    refine sp_irem 17 rfl n1_ rfl ?_
    refine hq_putI 20 rfl (kP0 h_o) rfl ?_
    refine sp_aload_n 21 rfl rfl rfl ?_
    refine sp_aload_n 22 rfl rfl rfl ?_
    refine hq_getI 25 rfl (kP0 h_o) rfl ?_
    refine sp_I (y := (I o 5)) (by simp [mm_u]) ?_
    refine sp_iconst 26 rfl rfl ?_
    refine sp_ic_ne 29 rfl rfl (fun q => ?_) (fun q => ?_)
    · have k := k.2 q
      refine sp_aload_n 34 rfl rfl rfl ?_
      refine hq_getI 37 rfl (kP0 h_o) rfl ?_
      refine sp_I (y := (I o 5)) (by simp [mm_u]) ?_
      refine sp_aload_n 38 rfl rfl rfl ?_
      refine hq_getI 41 rfl (kP0 h_o) rfl ?_
      refine sp_I (y := (I o 0)) (by simp [mm_u]) ?_
      refine sp_irem 42 rfl n1_ rfl ?_
      refine hq_putI 45 rfl (kP0 h_o) rfl ?_
      exact st_vret rfl rfl (Nat.le_refl _) (Nat.le_refl _) k
    · have k := k.1 q
      refine sp_iconst 30 rfl rfl ?_
      refine sp_goto rfl ?_
      refine hq_putI 45 rfl (kP0 h_o) rfl ?_
      exact st_vret rfl rfl (Nat.le_refl _) (Nat.le_refl _) k
theorem sg_X5_set {SL : Nat} {xs : Nat → Int32} {d : Nat} {p s q : Nat} {Q : Option Value → mm_H → Prop} {o : Nat} {a0 : Int32} {a1 : Int32} {I : Nat → Nat → Int32} {J : Nat → Nat → Int64} (h_o : isP o) (k : ((a0 = Int32.ofInt 128 → Q none (hp p s q (mm_u I o 0 a1) J)) ∧ (a0 = Int32.ofInt 129 → Q none (hp p s q (mm_u I o 1 a1) J)) ∧ (a0 = Int32.ofInt 130 → Q none (hp p s q (mm_u I o 2 a1) J)) ∧ (a0 = Int32.ofInt 132 → Q none (hp p s q (mm_u I o 3 a1) J)) ∧ (a0 = Int32.ofInt 133 → Q none (hp p s q (mm_u I o 4 a1) J)) ∧ (a0 = Int32.ofInt 134 → Q none (hp p s q (mm_u I o 5 a1) J)) ∧ (¬ a0 = Int32.ofInt 128 → ¬ a0 = Int32.ofInt 129 → ¬ a0 = Int32.ofInt 130 → ¬ a0 = Int32.ofInt 132 → ¬ a0 = Int32.ofInt 133 → ¬ a0 = Int32.ofInt 134 → Q none (hp p s q I J)))) : mm_s SL xs (d + 1) 52 [.ref o, .int a0, .int a1] (hp p s q I J) Q := by
  refine e_X5_set rfl ?_
  refine sp_iload_n 1 rfl rfl rfl ?_
  by_cases q1_0 : a0 = Int32.ofInt 128
  · have k := k.1 q1_0
    refine sp_table (t := 44) rfl (by rw [q1_0]; rfl) ?_
    refine sp_aload_n 45 rfl rfl rfl ?_
    refine sp_iload_n 46 rfl rfl rfl ?_
    refine hq_putI 49 rfl (kP0 h_o) rfl ?_
    refine sp_goto rfl ?_
    exact st_vret rfl rfl (Nat.le_refl _) (Nat.le_refl _) k
  · skip
    by_cases q1_1 : a0 = Int32.ofInt 129
    · have k := k.2.1 q1_1
      refine sp_table (t := 52) rfl (by rw [q1_1]; rfl) ?_
      refine sp_aload_n 53 rfl rfl rfl ?_
      refine sp_iload_n 54 rfl rfl rfl ?_
      refine hq_putI 57 rfl (kP0 h_o) rfl ?_
      refine sp_goto rfl ?_
      exact st_vret rfl rfl (Nat.le_refl _) (Nat.le_refl _) k
    · skip
      by_cases q1_2 : a0 = Int32.ofInt 130
      · have k := k.2.2.1 q1_2
        refine sp_table (t := 60) rfl (by rw [q1_2]; rfl) ?_
        refine sp_aload_n 61 rfl rfl rfl ?_
        refine sp_iload_n 62 rfl rfl rfl ?_
        refine hq_putI 65 rfl (kP0 h_o) rfl ?_
        refine sp_goto rfl ?_
        exact st_vret rfl rfl (Nat.le_refl _) (Nat.le_refl _) k
      · skip
        by_cases q1_3 : a0 = Int32.ofInt 132
        · have k := k.2.2.2.1 q1_3
          refine sp_table (t := 68) rfl (by rw [q1_3]; rfl) ?_
          refine sp_aload_n 69 rfl rfl rfl ?_
          refine sp_iload_n 70 rfl rfl rfl ?_
          refine hq_putI 73 rfl (kP0 h_o) rfl ?_
          refine sp_goto rfl ?_
          exact st_vret rfl rfl (Nat.le_refl _) (Nat.le_refl _) k
        · skip
          by_cases q1_4 : a0 = Int32.ofInt 133
          · have k := k.2.2.2.2.1 q1_4
            refine sp_table (t := 76) rfl (by rw [q1_4]; rfl) ?_
            refine sp_aload_n 77 rfl rfl rfl ?_
            refine sp_iload_n 78 rfl rfl rfl ?_
            refine hq_putI 81 rfl (kP0 h_o) rfl ?_
            refine sp_goto rfl ?_
            exact st_vret rfl rfl (Nat.le_refl _) (Nat.le_refl _) k
          · skip
            by_cases q1_5 : a0 = Int32.ofInt 134
            · have k := k.2.2.2.2.2.1 q1_5
              refine sp_table (t := 84) rfl (by rw [q1_5]; rfl) ?_
              refine sp_aload_n 85 rfl rfl rfl ?_
              refine sp_iload_n 86 rfl rfl rfl ?_
              refine hq_putI 89 rfl (kP0 h_o) rfl ?_
              refine sp_goto rfl ?_
              exact st_vret rfl rfl (Nat.le_refl _) (Nat.le_refl _) k
            · skip
              have k := k.2.2.2.2.2.2 q1_0 q1_1 q1_2 q1_3 q1_4 q1_5
              refine sp_table (t := 92) rfl ?_ ?_
              · unfold mm_tab
                rcases Classical.em (a0.toInt < 128 ∨ 134 < a0.toInt) with z | z
                · rw [if_pos z]; rfl
                · rw [if_neg z]
                  have : a0.toInt = 131 := by
                    have := tb_ne q1_0; have := tb_ne q1_1; have := tb_ne q1_2; have := tb_ne q1_3; have := tb_ne q1_4; have := tb_ne q1_5
                    omega
                  rcases this with e_ <;> (rw [e_]; rfl)
              · skip
                exact st_vret rfl rfl (Nat.le_refl _) (Nat.le_refl _) k
def w_X5_knows_2 (SL : Nat) (xs : Nat → Int32) (d : Nat) (p s q : Nat) (Q : Option Value → mm_H → Prop) (o : Nat) (v1 : Int64) (v3 : Int32) (I : Nat → Nat → Int32) (J : Nat → Nat → Int64) : Prop := mm_w SL xs (mm_s SL xs (d + 0)) mm_am kX5_knows 0 0 (some .boolean) Q 2 [some (.ref o), some (.long v1), none, some (.int v3)] [] (hp p s q I J) 0 0
theorem sg_X5_knows {SL : Nat} {xs : Nat → Int32} {d : Nat} {p s q : Nat} {Q : Option Value → mm_H → Prop} {o : Nat} {a0 : Int64} {I : Nat → Nat → Int32} {J : Nat → Nat → Int64}  (k : w_X5_knows_2 SL xs d p s q Q o a0 (Int32.ofInt 0) I J) : mm_s SL xs (d + 1) 53 [.ref o, .long a0] (hp p s q I J) Q := by
  refine e_X5_knows rfl ?_
  refine sp_iconst 1 rfl rfl ?_
  refine sp_istore_n 2 rfl rfl rfl ?_
  exact k
theorem sg_X5_knows_2 {SL : Nat} {xs : Nat → Int32} {d : Nat} {p s q : Nat} {Q : Option Value → mm_H → Prop} {o : Nat} {v1 : Int64} {v3 : Int32} {I : Nat → Nat → Int32} {J : Nat → Nat → Int64} (h_o : isP o) (k : (((I o 10) ≤ v3 → Q (some (.int (Int32.ofInt 0))) (hp p s q I J)) ∧ (¬ ((I o 10) ≤ v3) → (((Int32.ofInt 9) ≤ v3 → Q (some (.int (Int32.ofInt 0))) (hp p s q I J)) ∧ (¬ ((Int32.ofInt 9) ≤ v3) → (vp_in v3 9 ∧ (((J (o + 1) ((v3).toNatClampNeg)) = v1 → Q (some (.int (Int32.ofInt 1))) (hp p s q I J)) ∧ (¬ ((J (o + 1) ((v3).toNatClampNeg)) = v1) → w_X5_knows_2 SL xs d p s q Q o v1 (v3 + Int32.ofInt 1) I J)))))))) : w_X5_knows_2 SL xs d p s q Q o v1 v3 I J := by
  unfold w_X5_knows_2
  refine sp_iload_n 3 rfl rfl rfl ?_
  refine sp_aload_n 4 rfl rfl rfl ?_
  refine hq_getI 7 rfl (kP0 h_o) rfl ?_
  refine sp_ic_ge 10 rfl rfl (fun q => ?_) (fun q => ?_)
  · have k := k.1 q
    refine sp_iconst 36 rfl rfl ?_
    exact st_zret rfl rfl (by decide) (Nat.le_refl _) (Nat.le_refl _) k
  · have k := k.2 q
    refine sp_iload_n 11 rfl rfl rfl ?_
    refine sp_bipush 13 rfl rfl ?_
    refine sp_I (y := Int32.ofInt 9) rfl ?_
    refine sp_ic_ge 16 rfl rfl (fun q => ?_) (fun q => ?_)
    · have k := k.1 q
      refine sp_iconst 36 rfl rfl ?_
      exact st_zret rfl rfl (by decide) (Nat.le_refl _) (Nat.le_refl _) k
    · have k := k.2 q
      refine sp_aload_n 17 rfl rfl rfl ?_
      refine hq_getR 20 rfl (kP0 h_o) (rP1 h_o) rfl ?_
      refine sp_iload_n 21 rfl rfl rfl ?_
      have n1_ := k.1
      have k := k.2
      refine hq_lald 22 rfl (kP1 h_o) n1_ rfl ?_
      refine sp_lload_n 23 rfl rfl rfl ?_
      refine sp_lcmp 24 rfl rfl ?_
      refine sp_if_ne 27 rfl rfl (fun q => ?_) (fun q => ?_)
      · have k := k.2 (fun z => q ((lg_cmp_eq _ _).mpr z))
        refine sp_iinc 32 rfl rfl rfl rfl ?_
        refine sp_goto rfl ?_
        exact k
      · have k := k.1 ((lg_cmp_eq _ _).mp q)
        refine sp_iconst 28 rfl rfl ?_
        exact st_zret rfl rfl (by decide) (Nat.le_refl _) (Nat.le_refl _) k
def w_X5_draws_2 (SL : Nat) (xs : Nat → Int32) (d : Nat) (p s q : Nat) (Q : Option Value → mm_H → Prop) (o : Nat) (v1 : Int32) (v2 : Int32) (I : Nat → Nat → Int32) (J : Nat → Nat → Int64) : Prop := mm_w SL xs (mm_s SL xs (d + 0)) mm_am kX5_draws 0 0 (some .boolean) Q 2 [some (.ref o), some (.int v1), some (.int v2)] [] (hp p s q I J) 0 0
theorem sg_X5_draws {SL : Nat} {xs : Nat → Int32} {d : Nat} {p s q : Nat} {Q : Option Value → mm_H → Prop} {o : Nat} {a0 : Int32} {I : Nat → Nat → Int32} {J : Nat → Nat → Int64}  (k : w_X5_draws_2 SL xs d p s q Q o a0 (Int32.ofInt 0) I J) : mm_s SL xs (d + 1) 54 [.ref o, .int a0] (hp p s q I J) Q := by
  refine e_X5_draws rfl ?_
  refine sp_iconst 1 rfl rfl ?_
  refine sp_istore_n 2 rfl rfl rfl ?_
  exact k
theorem sg_X5_draws_2 {SL : Nat} {xs : Nat → Int32} {d : Nat} {p s q : Nat} {Q : Option Value → mm_H → Prop} {o : Nat} {v1 : Int32} {v2 : Int32} {I : Nat → Nat → Int32} {J : Nat → Nat → Int64} (h_o : isP o) (k : (((I o 11) ≤ v2 → Q (some (.int (Int32.ofInt 0))) (hp p s q I J)) ∧ (¬ ((I o 11) ≤ v2) → (((Int32.ofInt 12) ≤ v2 → Q (some (.int (Int32.ofInt 0))) (hp p s q I J)) ∧ (¬ ((Int32.ofInt 12) ≤ v2) → (vp_in v2 12 ∧ (((I (o + 3) ((v2).toNatClampNeg)) = v1 → Q (some (.int (Int32.ofInt 1))) (hp p s q I J)) ∧ (¬ ((I (o + 3) ((v2).toNatClampNeg)) = v1) → w_X5_draws_2 SL xs d p s q Q o v1 (v2 + Int32.ofInt 1) I J)))))))) : w_X5_draws_2 SL xs d p s q Q o v1 v2 I J := by
  unfold w_X5_draws_2
  refine sp_iload_n 3 rfl rfl rfl ?_
  refine sp_aload_n 4 rfl rfl rfl ?_
  refine hq_getI 7 rfl (kP0 h_o) rfl ?_
  refine sp_ic_ge 10 rfl rfl (fun q => ?_) (fun q => ?_)
  · have k := k.1 q
    refine sp_iconst 35 rfl rfl ?_
    exact st_zret rfl rfl (by decide) (Nat.le_refl _) (Nat.le_refl _) k
  · have k := k.2 q
    refine sp_iload_n 11 rfl rfl rfl ?_
    refine sp_bipush 13 rfl rfl ?_
    refine sp_I (y := Int32.ofInt 12) rfl ?_
    refine sp_ic_ge 16 rfl rfl (fun q => ?_) (fun q => ?_)
    · have k := k.1 q
      refine sp_iconst 35 rfl rfl ?_
      exact st_zret rfl rfl (by decide) (Nat.le_refl _) (Nat.le_refl _) k
    · have k := k.2 q
      refine sp_aload_n 17 rfl rfl rfl ?_
      refine hq_getR 20 rfl (kP0 h_o) (rP3 h_o) rfl ?_
      refine sp_iload_n 21 rfl rfl rfl ?_
      have n1_ := k.1
      have k := k.2
      refine hq_iald 22 rfl (kP3 h_o) n1_ rfl ?_
      refine sp_iload_n 23 rfl rfl rfl ?_
      refine sp_ic_ne 26 rfl rfl (fun q => ?_) (fun q => ?_)
      · have k := k.2 q
        refine sp_iinc 31 rfl rfl rfl rfl ?_
        refine sp_goto rfl ?_
        exact k
      · have k := k.1 q
        refine sp_iconst 27 rfl rfl ?_
        exact st_zret rfl rfl (by decide) (Nat.le_refl _) (Nat.le_refl _) k
theorem sg_X5_addPerson {SL : Nat} {xs : Nat → Int32} {d : Nat} {p s q : Nat} {Q : Option Value → mm_H → Prop} {o : Nat} {a0 : Int64} {a1 : Int32} {I : Nat → Nat → Int32} {J : Nat → Nat → Int64} (h_o : isP o) (k : (((Int32.ofInt 9) ≤ (I o 10) → Q none (hp p s q I J)) ∧ (¬ ((Int32.ofInt 9) ≤ (I o 10)) → (vp_in (I o 10) 9 ∧ Q none (hp p s q (mm_u (mm_u I (o + 2) (((I o 10)).toNatClampNeg) a1) o 10 ((I o 10) + (Int32.ofInt 1))) (mm_u J (o + 1) (((I o 10)).toNatClampNeg) a0)))))) : mm_s SL xs (d + 1) 55 [.ref o, .long a0, .int a1] (hp p s q I J) Q := by
  refine e_X5_addPerson rfl ?_
  refine sp_aload_n 1 rfl rfl rfl ?_
  refine hq_getI 4 rfl (kP0 h_o) rfl ?_
  refine sp_bipush 6 rfl rfl ?_
  refine sp_I (y := Int32.ofInt 9) rfl ?_
  refine sp_ic_ge 9 rfl rfl (fun q => ?_) (fun q => ?_)
  · have k := k.1 q
    exact st_vret rfl rfl (Nat.le_refl _) (Nat.le_refl _) k
  · have k := k.2 q
    refine sp_aload_n 10 rfl rfl rfl ?_
    refine hq_getR 13 rfl (kP0 h_o) (rP1 h_o) rfl ?_
    refine sp_aload_n 14 rfl rfl rfl ?_
    refine hq_getI 17 rfl (kP0 h_o) rfl ?_
    refine sp_lload_n 18 rfl rfl rfl ?_
    have n1_ := k.1
    have k := k.2
    refine hq_last 19 rfl (kP1 h_o) n1_ rfl ?_
    refine sp_aload_n 20 rfl rfl rfl ?_
    refine hq_getR 23 rfl (kP0 h_o) (rP2 h_o) rfl ?_
    refine sp_aload_n 24 rfl rfl rfl ?_
    refine hq_getI 27 rfl (kP0 h_o) rfl ?_
    refine sp_iload_n 28 rfl rfl rfl ?_
    refine hq_iast 29 rfl (kP2 h_o) n1_ rfl ?_
    refine sp_aload_n 30 rfl rfl rfl ?_
    refine sp_dup 31 rfl rfl rfl ?_
    refine hq_getI 34 rfl (kP0 h_o) rfl ?_
    refine sp_I (y := (I o 10)) (by simp [mm_u]) ?_
    refine sp_iconst 35 rfl rfl ?_
    refine sp_iadd 36 rfl rfl ?_
    refine hq_putI 39 rfl (kP0 h_o) rfl ?_
    exact st_vret rfl rfl (Nat.le_refl _) (Nat.le_refl _) k
theorem sg_X5_addDrawn {SL : Nat} {xs : Nat → Int32} {d : Nat} {p s q : Nat} {Q : Option Value → mm_H → Prop} {o : Nat} {a0 : Int32} {a1 : Int32} {I : Nat → Nat → Int32} {J : Nat → Nat → Int64} (h_o : isP o) (k : (((Int32.ofInt 12) ≤ (I o 11) → Q none (hp p s q I J)) ∧ (¬ ((Int32.ofInt 12) ≤ (I o 11)) → (vp_in (I o 11) 12 ∧ Q none (hp p s q (mm_u (mm_u (mm_u I (o + 3) (((I o 11)).toNatClampNeg) a0) (o + 4) (((I o 11)).toNatClampNeg) a1) o 11 ((I o 11) + (Int32.ofInt 1))) J))))) : mm_s SL xs (d + 1) 56 [.ref o, .int a0, .int a1] (hp p s q I J) Q := by
  refine e_X5_addDrawn rfl ?_
  refine sp_aload_n 1 rfl rfl rfl ?_
  refine hq_getI 4 rfl (kP0 h_o) rfl ?_
  refine sp_bipush 6 rfl rfl ?_
  refine sp_I (y := Int32.ofInt 12) rfl ?_
  refine sp_ic_ge 9 rfl rfl (fun q => ?_) (fun q => ?_)
  · have k := k.1 q
    exact st_vret rfl rfl (Nat.le_refl _) (Nat.le_refl _) k
  · have k := k.2 q
    refine sp_aload_n 10 rfl rfl rfl ?_
    refine hq_getR 13 rfl (kP0 h_o) (rP3 h_o) rfl ?_
    refine sp_aload_n 14 rfl rfl rfl ?_
    refine hq_getI 17 rfl (kP0 h_o) rfl ?_
    refine sp_iload_n 18 rfl rfl rfl ?_
    have n1_ := k.1
    have k := k.2
    refine hq_iast 19 rfl (kP3 h_o) n1_ rfl ?_
    refine sp_aload_n 20 rfl rfl rfl ?_
    refine hq_getR 23 rfl (kP0 h_o) (rP4 h_o) rfl ?_
    refine sp_aload_n 24 rfl rfl rfl ?_
    refine hq_getI 27 rfl (kP0 h_o) rfl ?_
    refine sp_I (y := (I o 11)) (by simp [mm_u]) ?_
    refine sp_iload_n 28 rfl rfl rfl ?_
    refine hq_iast 29 rfl (kP4 h_o) n1_ rfl ?_
    refine sp_aload_n 30 rfl rfl rfl ?_
    refine sp_dup 31 rfl rfl rfl ?_
    refine hq_getI 34 rfl (kP0 h_o) rfl ?_
    refine sp_I (y := (I o 11)) (by simp [mm_u]) ?_
    refine sp_iconst 35 rfl rfl ?_
    refine sp_iadd 36 rfl rfl ?_
    refine hq_putI 39 rfl (kP0 h_o) rfl ?_
    exact st_vret rfl rfl (Nat.le_refl _) (Nat.le_refl _) k
theorem sg_X5_forgetCount {SL : Nat} {xs : Nat → Int32} {d : Nat} {p s q : Nat} {Q : Option Value → mm_H → Prop} {o : Nat} {I : Nat → Nat → Int32} {J : Nat → Nat → Int64} (h_o : isP o) (k : Q none (hp p s q (mm_u I o 17 (Int32.ofInt 0)) J)) : mm_s SL xs (d + 1) 57 [.ref o] (hp p s q I J) Q := by
  refine e_X5_forgetCount rfl ?_
  refine sp_aload_n 1 rfl rfl rfl ?_
  refine sp_iconst 2 rfl rfl ?_
  refine hq_putI 5 rfl (kP0 h_o) rfl ?_
  exact st_vret rfl rfl (Nat.le_refl _) (Nat.le_refl _) k
theorem sg_X5_addCode {SL : Nat} {xs : Nat → Int32} {d : Nat} {p s q : Nat} {Q : Option Value → mm_H → Prop} {o : Nat} {a0 : Int32} {I : Nat → Nat → Int32} {J : Nat → Nat → Int64} (h_o : isP o) (k : (((Int32.ofInt 360) ≤ (I o 17) → Q none (hp p s q I J)) ∧ (¬ ((Int32.ofInt 360) ≤ (I o 17)) → (vp_in (I o 17) 360 ∧ Q none (hp p s q (mm_u (mm_u I (o + 5) (((I o 17)).toNatClampNeg) a0) o 17 ((I o 17) + (Int32.ofInt 1))) J))))) : mm_s SL xs (d + 1) 58 [.ref o, .int a0] (hp p s q I J) Q := by
  refine e_X5_addCode rfl ?_
  refine sp_aload_n 1 rfl rfl rfl ?_
  refine hq_getI 4 rfl (kP0 h_o) rfl ?_
  refine sp_aload_n 5 rfl rfl rfl ?_
  refine hq_getR 8 rfl (kP0 h_o) (rP5 h_o) rfl ?_
  refine hq_alen 9 rfl (kP5 h_o) rfl rfl ?_
  refine sp_I (y := Int32.ofInt 360) rfl ?_
  refine sp_ic_ge 12 rfl rfl (fun q => ?_) (fun q => ?_)
  · have k := k.1 q
    exact st_vret rfl rfl (Nat.le_refl _) (Nat.le_refl _) k
  · have k := k.2 q
    refine sp_aload_n 13 rfl rfl rfl ?_
    refine hq_getR 16 rfl (kP0 h_o) (rP5 h_o) rfl ?_
    refine sp_aload_n 17 rfl rfl rfl ?_
    refine hq_getI 20 rfl (kP0 h_o) rfl ?_
    refine sp_iload_n 21 rfl rfl rfl ?_
    have n1_ := k.1
    have k := k.2
    refine hq_iast 22 rfl (kP5 h_o) n1_ rfl ?_
    refine sp_aload_n 23 rfl rfl rfl ?_
    refine sp_dup 24 rfl rfl rfl ?_
    refine hq_getI 27 rfl (kP0 h_o) rfl ?_
    refine sp_I (y := (I o 17)) (by simp [mm_u]) ?_
    refine sp_iconst 28 rfl rfl ?_
    refine sp_iadd 29 rfl rfl ?_
    refine hq_putI 32 rfl (kP0 h_o) rfl ?_
    exact st_vret rfl rfl (Nat.le_refl _) (Nat.le_refl _) k
theorem sg_X5_joined {SL : Nat} {xs : Nat → Int32} {d : Nat} {p s q : Nat} {Q : Option Value → mm_H → Prop} {a0 : Int32} {a1 : Int32} {a2 : Int32} {I : Nat → Nat → Int32} {J : Nat → Nat → Int64}  (k : ((a0 = Int32.ofInt 42 → Q (some (.int (a1 * a2))) (hp p s q I J)) ∧ (a0 = Int32.ofInt 43 → Q (some (.int (a1 + a2))) (hp p s q I J)) ∧ (a0 = Int32.ofInt 45 → Q (some (.int (a1 - a2))) (hp p s q I J)) ∧ (a0 = Int32.ofInt 47 → ((a2 = Int32.ofInt 0 → Q (some (.int (Int32.ofInt 0))) (hp p s q I J)) ∧ (¬ (a2 = Int32.ofInt 0) → (¬ a2 = 0 ∧ Q (some (.int (a1 / a2))) (hp p s q I J))))) ∧ (a0 = Int32.ofInt 60 → ((a2 ≤ a1 → Q (some (.int (Int32.ofInt 0))) (hp p s q I J)) ∧ (¬ (a2 ≤ a1) → Q (some (.int (Int32.ofInt 1))) (hp p s q I J)))) ∧ (a0 = Int32.ofInt 61 → ((a1 = a2 → Q (some (.int (Int32.ofInt 1))) (hp p s q I J)) ∧ (¬ (a1 = a2) → Q (some (.int (Int32.ofInt 0))) (hp p s q I J)))) ∧ (a0 = Int32.ofInt 62 → ((a1 ≤ a2 → Q (some (.int (Int32.ofInt 0))) (hp p s q I J)) ∧ (¬ (a1 ≤ a2) → Q (some (.int (Int32.ofInt 1))) (hp p s q I J)))) ∧ (a0 = Int32.ofInt 142 → ((a1 = Int32.ofInt 0 → ((a2 = Int32.ofInt 0 → Q (some (.int (Int32.ofInt 0))) (hp p s q I J)) ∧ (¬ (a2 = Int32.ofInt 0) → Q (some (.int (Int32.ofInt 1))) (hp p s q I J)))) ∧ (¬ (a1 = Int32.ofInt 0) → Q (some (.int (Int32.ofInt 1))) (hp p s q I J)))) ∧ (a0 = Int32.ofInt 143 → ((a1 = Int32.ofInt 0 → Q (some (.int (Int32.ofInt 0))) (hp p s q I J)) ∧ (¬ (a1 = Int32.ofInt 0) → ((a2 = Int32.ofInt 0 → Q (some (.int (Int32.ofInt 0))) (hp p s q I J)) ∧ (¬ (a2 = Int32.ofInt 0) → Q (some (.int (Int32.ofInt 1))) (hp p s q I J)))))) ∧ (¬ a0 = Int32.ofInt 42 → ¬ a0 = Int32.ofInt 43 → ¬ a0 = Int32.ofInt 45 → ¬ a0 = Int32.ofInt 47 → ¬ a0 = Int32.ofInt 60 → ¬ a0 = Int32.ofInt 61 → ¬ a0 = Int32.ofInt 62 → ¬ a0 = Int32.ofInt 142 → ¬ a0 = Int32.ofInt 143 → Q (some (.int (Int32.ofInt 0))) (hp p s q I J)))) : mm_s SL xs (d + 1) 63 [.int a0, .int a1, .int a2] (hp p s q I J) Q := by
  refine e_X5_joined rfl ?_
  refine sp_iload_n 1 rfl rfl rfl ?_
  by_cases q1_0 : a0 = Int32.ofInt 42
  · have k := k.1 q1_0
    refine sp_lookup (t := 153) rfl (by rw [q1_0]; rfl) ?_
    refine sp_iload_n 154 rfl rfl rfl ?_
    refine sp_iload_n 155 rfl rfl rfl ?_
    refine sp_imul 156 rfl rfl ?_
    exact st_iret rfl rfl (Nat.le_refl _) (Nat.le_refl _) k
  · skip
    by_cases q1_1 : a0 = Int32.ofInt 43
    · have k := k.2.1 q1_1
      refine sp_lookup (t := 145) rfl (by rw [q1_1]; rfl) ?_
      refine sp_iload_n 146 rfl rfl rfl ?_
      refine sp_iload_n 147 rfl rfl rfl ?_
      refine sp_iadd 148 rfl rfl ?_
      exact st_iret rfl rfl (Nat.le_refl _) (Nat.le_refl _) k
    · skip
      by_cases q1_2 : a0 = Int32.ofInt 45
      · have k := k.2.2.1 q1_2
        refine sp_lookup (t := 149) rfl (by rw [q1_2]; rfl) ?_
        refine sp_iload_n 150 rfl rfl rfl ?_
        refine sp_iload_n 151 rfl rfl rfl ?_
        refine sp_isub 152 rfl rfl ?_
        exact st_iret rfl rfl (Nat.le_refl _) (Nat.le_refl _) k
      · skip
        by_cases q1_3 : a0 = Int32.ofInt 47
        · have k := k.2.2.2.1 q1_3
          refine sp_lookup (t := 157) rfl (by rw [q1_3]; rfl) ?_
          refine sp_iload_n 158 rfl rfl rfl ?_
          refine sp_if_ne 161 rfl rfl (fun q => ?_) (fun q => ?_)
          · have k := k.2 q
            refine sp_iload_n 166 rfl rfl rfl ?_
            refine sp_iload_n 167 rfl rfl rfl ?_
            have n1_ := k.1
            have k := k.2
            refine sp_idiv 168 rfl n1_ rfl ?_
            exact st_iret rfl rfl (Nat.le_refl _) (Nat.le_refl _) k
          · have k := k.1 q
            refine sp_iconst 162 rfl rfl ?_
            refine sp_goto rfl ?_
            exact st_iret rfl rfl (Nat.le_refl _) (Nat.le_refl _) k
        · skip
          by_cases q1_4 : a0 = Int32.ofInt 60
          · have k := k.2.2.2.2.1 q1_4
            refine sp_lookup (t := 112) rfl (by rw [q1_4]; rfl) ?_
            refine sp_iload_n 113 rfl rfl rfl ?_
            refine sp_iload_n 114 rfl rfl rfl ?_
            refine sp_ic_ge 117 rfl rfl (fun q => ?_) (fun q => ?_)
            · have k := k.1 q
              refine sp_iconst 122 rfl rfl ?_
              exact st_iret rfl rfl (Nat.le_refl _) (Nat.le_refl _) k
            · have k := k.2 q
              refine sp_iconst 118 rfl rfl ?_
              refine sp_goto rfl ?_
              exact st_iret rfl rfl (Nat.le_refl _) (Nat.le_refl _) k
          · skip
            by_cases q1_5 : a0 = Int32.ofInt 61
            · have k := k.2.2.2.2.2.1 q1_5
              refine sp_lookup (t := 134) rfl (by rw [q1_5]; rfl) ?_
              refine sp_iload_n 135 rfl rfl rfl ?_
              refine sp_iload_n 136 rfl rfl rfl ?_
              refine sp_ic_ne 139 rfl rfl (fun q => ?_) (fun q => ?_)
              · have k := k.2 q
                refine sp_iconst 144 rfl rfl ?_
                exact st_iret rfl rfl (Nat.le_refl _) (Nat.le_refl _) k
              · have k := k.1 q
                refine sp_iconst 140 rfl rfl ?_
                refine sp_goto rfl ?_
                exact st_iret rfl rfl (Nat.le_refl _) (Nat.le_refl _) k
            · skip
              by_cases q1_6 : a0 = Int32.ofInt 62
              · have k := k.2.2.2.2.2.2.1 q1_6
                refine sp_lookup (t := 123) rfl (by rw [q1_6]; rfl) ?_
                refine sp_iload_n 124 rfl rfl rfl ?_
                refine sp_iload_n 125 rfl rfl rfl ?_
                refine sp_ic_le 128 rfl rfl (fun q => ?_) (fun q => ?_)
                · have k := k.1 q
                  refine sp_iconst 133 rfl rfl ?_
                  exact st_iret rfl rfl (Nat.le_refl _) (Nat.le_refl _) k
                · have k := k.2 q
                  refine sp_iconst 129 rfl rfl ?_
                  refine sp_goto rfl ?_
                  exact st_iret rfl rfl (Nat.le_refl _) (Nat.le_refl _) k
              · skip
                by_cases q1_7 : a0 = Int32.ofInt 142
                · have k := k.2.2.2.2.2.2.2.1 q1_7
                  refine sp_lookup (t := 84) rfl (by rw [q1_7]; rfl) ?_
                  refine sp_iload_n 85 rfl rfl rfl ?_
                  refine sp_if_ne 88 rfl rfl (fun q => ?_) (fun q => ?_)
                  · have k := k.2 q
                    refine sp_iconst 93 rfl rfl ?_
                    refine sp_goto rfl ?_
                    exact st_iret rfl rfl (Nat.le_refl _) (Nat.le_refl _) k
                  · have k := k.1 q
                    refine sp_iload_n 89 rfl rfl rfl ?_
                    refine sp_if_eq 92 rfl rfl (fun q => ?_) (fun q => ?_)
                    · have k := k.1 q
                      refine sp_iconst 97 rfl rfl ?_
                      exact st_iret rfl rfl (Nat.le_refl _) (Nat.le_refl _) k
                    · have k := k.2 q
                      refine sp_iconst 93 rfl rfl ?_
                      refine sp_goto rfl ?_
                      exact st_iret rfl rfl (Nat.le_refl _) (Nat.le_refl _) k
                · skip
                  by_cases q1_8 : a0 = Int32.ofInt 143
                  · have k := k.2.2.2.2.2.2.2.2.1 q1_8
                    refine sp_lookup (t := 98) rfl (by rw [q1_8]; rfl) ?_
                    refine sp_iload_n 99 rfl rfl rfl ?_
                    refine sp_if_eq 102 rfl rfl (fun q => ?_) (fun q => ?_)
                    · have k := k.1 q
                      refine sp_iconst 111 rfl rfl ?_
                      exact st_iret rfl rfl (Nat.le_refl _) (Nat.le_refl _) k
                    · have k := k.2 q
                      refine sp_iload_n 103 rfl rfl rfl ?_
                      refine sp_if_eq 106 rfl rfl (fun q => ?_) (fun q => ?_)
                      · have k := k.1 q
                        refine sp_iconst 111 rfl rfl ?_
                        exact st_iret rfl rfl (Nat.le_refl _) (Nat.le_refl _) k
                      · have k := k.2 q
                        refine sp_iconst 107 rfl rfl ?_
                        refine sp_goto rfl ?_
                        exact st_iret rfl rfl (Nat.le_refl _) (Nat.le_refl _) k
                  · skip
                    have k := k.2.2.2.2.2.2.2.2.2 q1_0 q1_1 q1_2 q1_3 q1_4 q1_5 q1_6 q1_7 q1_8
                    refine sp_lookup (t := 169) rfl (by simp only [Op.lookupswitch.offset, Array.toList, List.find?]; rw [if_neg (fun e_ => tb_ne q1_0 e_.symm), if_neg (fun e_ => tb_ne q1_1 e_.symm), if_neg (fun e_ => tb_ne q1_2 e_.symm), if_neg (fun e_ => tb_ne q1_3 e_.symm), if_neg (fun e_ => tb_ne q1_4 e_.symm), if_neg (fun e_ => tb_ne q1_5 e_.symm), if_neg (fun e_ => tb_ne q1_6 e_.symm), if_neg (fun e_ => tb_ne q1_7 e_.symm), if_neg (fun e_ => tb_ne q1_8 e_.symm)]; rfl) ?_
                    refine sp_iconst 170 rfl rfl ?_
                    exact st_iret rfl rfl (Nat.le_refl _) (Nat.le_refl _) k
theorem sg_X7_fail {SL : Nat} {xs : Nat → Int32} {d : Nat} {p s q : Nat} {Q : Option Value → mm_H → Prop} {a0 : Int32} {I : Nat → Nat → Int32} {J : Nat → Nat → Int64}  (k : (((I 4 2) = (Int32.ofInt 1) → Q (some (.int (Int32.ofInt 0))) (hp p s q (mm_u (mm_u I 3 1 (Int32.ofInt 1)) 3 2 (I 4 3)) J)) ∧ (¬ ((I 4 2) = (Int32.ofInt 1)) → Q (some (.int (Int32.ofInt 0))) (hp p s q (mm_u (mm_u I 3 1 a0) 3 2 (I 4 3)) J)))) : mm_s SL xs (d + 1) 74 [.ref 3, .int a0] (hp p s q I J) Q := by
  refine e_X7_fail rfl ?_
  refine sp_aload_n 1 rfl rfl rfl ?_
  refine sp_aload_n 2 rfl rfl rfl ?_
  refine hq_getR 5 rfl rfl rfl rfl ?_
  refine hq_getI 8 rfl rfl rfl ?_
  refine sp_iconst 9 rfl rfl ?_
  refine sp_ic_ne 12 rfl rfl (fun q => ?_) (fun q => ?_)
  · have k := k.2 q
    refine sp_iload_n 17 rfl rfl rfl ?_
    refine hq_putI 20 rfl rfl rfl ?_
    refine sp_aload_n 21 rfl rfl rfl ?_
    refine sp_aload_n 22 rfl rfl rfl ?_
    refine hq_getR 25 rfl rfl rfl rfl ?_
    refine hq_getI 28 rfl rfl rfl ?_
    refine sp_I (y := (I 4 3)) (by simp [mm_u]) ?_
    refine hq_putI 31 rfl rfl rfl ?_
    refine sp_iconst 32 rfl rfl ?_
    exact st_zret rfl rfl (by decide) (Nat.le_refl _) (Nat.le_refl _) k
  · have k := k.1 q
    refine sp_iconst 13 rfl rfl ?_
    refine sp_goto rfl ?_
    refine hq_putI 20 rfl rfl rfl ?_
    refine sp_aload_n 21 rfl rfl rfl ?_
    refine sp_aload_n 22 rfl rfl rfl ?_
    refine hq_getR 25 rfl rfl rfl rfl ?_
    refine hq_getI 28 rfl rfl rfl ?_
    refine sp_I (y := (I 4 3)) (by simp [mm_u]) ?_
    refine hq_putI 31 rfl rfl rfl ?_
    refine sp_iconst 32 rfl rfl ?_
    exact st_zret rfl rfl (by decide) (Nat.le_refl _) (Nat.le_refl _) k
theorem sg_X7_isFull {SL : Nat} {xs : Nat → Int32} {d : Nat} {p s q : Nat} {Q : Option Value → mm_H → Prop} {a0 : Int32} {I : Nat → Nat → Int32} {J : Nat → Nat → Int64} (h_q : isP q) (k : ((a0 = Int32.ofInt 135 → (((I 3 5) < (Int32.ofInt 8) → Q (some (.int (Int32.ofInt 0))) (hp p s q I J)) ∧ (¬ ((I 3 5) < (Int32.ofInt 8)) → Q (some (.int (Int32.ofInt 1))) (hp p s q I J)))) ∧ (a0 = Int32.ofInt 137 → (((I q 10) < (Int32.ofInt 9) → Q (some (.int (Int32.ofInt 0))) (hp p s q I J)) ∧ (¬ ((I q 10) < (Int32.ofInt 9)) → Q (some (.int (Int32.ofInt 1))) (hp p s q I J)))) ∧ (a0 = Int32.ofInt 138 → (((I q 11) < (Int32.ofInt 12) → Q (some (.int (Int32.ofInt 0))) (hp p s q I J)) ∧ (¬ ((I q 11) < (Int32.ofInt 12)) → Q (some (.int (Int32.ofInt 1))) (hp p s q I J)))) ∧ (¬ a0 = Int32.ofInt 135 → ¬ a0 = Int32.ofInt 137 → ¬ a0 = Int32.ofInt 138 → ((a0 < (Int32.ofInt 128) → Q (some (.int (Int32.ofInt 1))) (hp p s q I J)) ∧ (¬ (a0 < (Int32.ofInt 128)) → (((Int32.ofInt 138) < a0 → Q (some (.int (Int32.ofInt 1))) (hp p s q I J)) ∧ (¬ ((Int32.ofInt 138) < a0) → (vp_in (a0 - (Int32.ofInt 128)) 11 ∧ (((I 14 (((a0 - (Int32.ofInt 128))).toNatClampNeg)) = Int32.ofInt 0 → Q (some (.int (Int32.ofInt 0))) (hp p s q I J)) ∧ (¬ ((I 14 (((a0 - (Int32.ofInt 128))).toNatClampNeg)) = Int32.ofInt 0) → Q (some (.int (Int32.ofInt 1))) (hp p s q I J))))))))))) : mm_s SL xs (d + 1) 77 [.ref 3, .int a0] (hp p s q I J) Q := by
  refine e_X7_isFull rfl ?_
  refine sp_iload_n 1 rfl rfl rfl ?_
  by_cases q1_0 : a0 = Int32.ofInt 135
  · have k := k.1 q1_0
    refine sp_table (t := 32) rfl (by rw [q1_0]; rfl) ?_
    refine sp_aload_n 33 rfl rfl rfl ?_
    refine hq_getI 36 rfl rfl rfl ?_
    refine sp_bipush 38 rfl rfl ?_
    refine sp_I (y := Int32.ofInt 8) rfl ?_
    refine sp_ic_lt 41 rfl rfl (fun q => ?_) (fun q => ?_)
    · have k := k.1 q
      refine sp_iconst 46 rfl rfl ?_
      exact st_zret rfl rfl (by decide) (Nat.le_refl _) (Nat.le_refl _) k
    · have k := k.2 q
      refine sp_iconst 42 rfl rfl ?_
      refine sp_goto rfl ?_
      exact st_zret rfl rfl (by decide) (Nat.le_refl _) (Nat.le_refl _) k
  · skip
    by_cases q1_1 : a0 = Int32.ofInt 137
    · have k := k.2.1 q1_1
      refine sp_table (t := 47) rfl (by rw [q1_1]; rfl) ?_
      refine sp_aload_n 48 rfl rfl rfl ?_
      refine hq_getR 51 rfl rfl rfl rfl ?_
      refine hq_getI 54 rfl (kP0 h_q) rfl ?_
      refine sp_bipush 56 rfl rfl ?_
      refine sp_I (y := Int32.ofInt 9) rfl ?_
      refine sp_ic_lt 59 rfl rfl (fun q => ?_) (fun q => ?_)
      · have k := k.1 q
        refine sp_iconst 64 rfl rfl ?_
        exact st_zret rfl rfl (by decide) (Nat.le_refl _) (Nat.le_refl _) k
      · have k := k.2 q
        refine sp_iconst 60 rfl rfl ?_
        refine sp_goto rfl ?_
        exact st_zret rfl rfl (by decide) (Nat.le_refl _) (Nat.le_refl _) k
    · skip
      by_cases q1_2 : a0 = Int32.ofInt 138
      · have k := k.2.2.1 q1_2
        refine sp_table (t := 65) rfl (by rw [q1_2]; rfl) ?_
        refine sp_aload_n 66 rfl rfl rfl ?_
        refine hq_getR 69 rfl rfl rfl rfl ?_
        refine hq_getI 72 rfl (kP0 h_q) rfl ?_
        refine sp_bipush 74 rfl rfl ?_
        refine sp_I (y := Int32.ofInt 12) rfl ?_
        refine sp_ic_lt 77 rfl rfl (fun q => ?_) (fun q => ?_)
        · have k := k.1 q
          refine sp_iconst 82 rfl rfl ?_
          exact st_zret rfl rfl (by decide) (Nat.le_refl _) (Nat.le_refl _) k
        · have k := k.2 q
          refine sp_iconst 78 rfl rfl ?_
          refine sp_goto rfl ?_
          exact st_zret rfl rfl (by decide) (Nat.le_refl _) (Nat.le_refl _) k
      · skip
        have k := k.2.2.2 q1_0 q1_1 q1_2
        refine sp_table (t := 83) rfl ?_ ?_
        · unfold mm_tab
          rcases Classical.em (a0.toInt < 135 ∨ 138 < a0.toInt) with z | z
          · rw [if_pos z]; rfl
          · rw [if_neg z]
            have : a0.toInt = 136 := by
              have := tb_ne q1_0; have := tb_ne q1_1; have := tb_ne q1_2
              omega
            rcases this with e_ <;> (rw [e_]; rfl)
        · skip
          refine sp_iload_n 84 rfl rfl rfl ?_
          refine sp_sipush 87 rfl rfl ?_
          refine sp_I (y := Int32.ofInt 128) rfl ?_
          refine sp_ic_lt 90 rfl rfl (fun q => ?_) (fun q => ?_)
          · have k := k.1 q
            refine sp_iconst 111 rfl rfl ?_
            refine sp_goto rfl ?_
            exact st_zret rfl rfl (by decide) (Nat.le_refl _) (Nat.le_refl _) k
          · have k := k.2 q
            refine sp_iload_n 91 rfl rfl rfl ?_
            refine sp_sipush 94 rfl rfl ?_
            refine sp_I (y := Int32.ofInt 138) rfl ?_
            refine sp_ic_gt 97 rfl rfl (fun q => ?_) (fun q => ?_)
            · have k := k.1 q
              refine sp_iconst 111 rfl rfl ?_
              refine sp_goto rfl ?_
              exact st_zret rfl rfl (by decide) (Nat.le_refl _) (Nat.le_refl _) k
            · have k := k.2 q
              refine sp_aload_n 98 rfl rfl rfl ?_
              refine hq_getR 101 rfl rfl rfl rfl ?_
              refine sp_iload_n 102 rfl rfl rfl ?_
              refine sp_sipush 105 rfl rfl ?_
              refine sp_I (y := Int32.ofInt 128) rfl ?_
              refine sp_isub 106 rfl rfl ?_
              have n1_ := k.1
              have k := k.2
              refine hq_zald 107 rfl rfl n1_ rfl ?_
              refine sp_if_eq 110 rfl rfl (fun q => ?_) (fun q => ?_)
              · have k := k.1 q
                refine sp_iconst 115 rfl rfl ?_
                exact st_zret rfl rfl (by decide) (Nat.le_refl _) (Nat.le_refl _) k
              · have k := k.2 q
                refine sp_iconst 111 rfl rfl ?_
                refine sp_goto rfl ?_
                exact st_zret rfl rfl (by decide) (Nat.le_refl _) (Nat.le_refl _) k
theorem sg_X8_takeBack {SL : Nat} {xs : Nat → Int32} {d : Nat} {p s q : Nat} {Q : Option Value → mm_H → Prop} {a0 : Int32} {a1 : Int32} {I : Nat → Nat → Int32} {J : Nat → Nat → Int64}  (k : ((a0 < Int32.ofInt 0 → Q (some (.int (Int32.ofInt 0))) (hp p s q I J)) ∧ (¬ (a0 < Int32.ofInt 0) → (((I 33 0) ≤ a0 → Q (some (.int (Int32.ofInt 0))) (hp p s q I J)) ∧ (¬ ((I 33 0) ≤ a0) → (((Int32.ofInt 40) ≤ a0 → Q (some (.int (Int32.ofInt 0))) (hp p s q I J)) ∧ (¬ ((Int32.ofInt 40) ≤ a0) → (vp_in a0 40 ∧ (((I 35 ((a0).toNatClampNeg)) = (Int32.ofInt (-1)) → Q (some (.int (Int32.ofInt 1))) (hp p s q (mm_u I 35 ((a0).toNatClampNeg) a1) J)) ∧ (¬ ((I 35 ((a0).toNatClampNeg)) = (Int32.ofInt (-1))) → Q (some (.int (Int32.ofInt 0))) (hp p s q I J))))))))))) : mm_s SL xs (d + 1) 94 [.ref 33, .int a0, .int a1] (hp p s q I J) Q := by
  refine e_X8_takeBack rfl ?_
  refine sp_iload_n 1 rfl rfl rfl ?_
  refine sp_if_lt 4 rfl rfl (fun q => ?_) (fun q => ?_)
  · have k := k.1 q
    refine sp_iconst 29 rfl rfl ?_
    exact st_zret rfl rfl (by decide) (Nat.le_refl _) (Nat.le_refl _) k
  · have k := k.2 q
    refine sp_iload_n 5 rfl rfl rfl ?_
    refine sp_aload_n 6 rfl rfl rfl ?_
    refine hq_getI 9 rfl rfl rfl ?_
    refine sp_ic_ge 12 rfl rfl (fun q => ?_) (fun q => ?_)
    · have k := k.1 q
      refine sp_iconst 29 rfl rfl ?_
      exact st_zret rfl rfl (by decide) (Nat.le_refl _) (Nat.le_refl _) k
    · have k := k.2 q
      refine sp_iload_n 13 rfl rfl rfl ?_
      refine sp_bipush 15 rfl rfl ?_
      refine sp_I (y := Int32.ofInt 40) rfl ?_
      refine sp_ic_ge 18 rfl rfl (fun q => ?_) (fun q => ?_)
      · have k := k.1 q
        refine sp_iconst 29 rfl rfl ?_
        exact st_zret rfl rfl (by decide) (Nat.le_refl _) (Nat.le_refl _) k
      · have k := k.2 q
        refine sp_aload_n 19 rfl rfl rfl ?_
        refine hq_getR 22 rfl rfl rfl rfl ?_
        refine sp_iload_n 23 rfl rfl rfl ?_
        have n1_ := k.1
        have k := k.2
        refine hq_iald 24 rfl rfl n1_ rfl ?_
        refine sp_iconst 25 rfl rfl ?_
        refine sp_ic_eq 28 rfl rfl (fun q => ?_) (fun q => ?_)
        · have k := k.1 q
          refine sp_aload_n 31 rfl rfl rfl ?_
          refine hq_getR 34 rfl rfl rfl rfl ?_
          refine sp_iload_n 35 rfl rfl rfl ?_
          refine sp_iload_n 36 rfl rfl rfl ?_
          refine hq_iast 37 rfl rfl n1_ rfl ?_
          refine sp_iconst 38 rfl rfl ?_
          exact st_zret rfl rfl (by decide) (Nat.le_refl _) (Nat.le_refl _) k
        · have k := k.2 q
          refine sp_iconst 29 rfl rfl ?_
          exact st_zret rfl rfl (by decide) (Nat.le_refl _) (Nat.le_refl _) k
def w_X8_sift_2 (SL : Nat) (xs : Nat → Int32) (d : Nat) (p s q : Nat) (Q : Option Value → mm_H → Prop) (v1 : Int32) (v2 : Int32) (I : Nat → Nat → Int32) (J : Nat → Nat → Int64) : Prop := mm_w SL xs (mm_s SL xs (d + 0)) mm_am kX8_sift 0 0 none Q 2 [some (.ref 33), some (.int v1), some (.int v2), none, none] [] (hp p s q I J) 0 0
def w_X8_sift_24 (SL : Nat) (xs : Nat → Int32) (d : Nat) (p s q : Nat) (Q : Option Value → mm_H → Prop) (v1 : Int32) (v2 : Int32) (I : Nat → Nat → Int32) (J : Nat → Nat → Int64) : Prop := mm_w SL xs (mm_s SL xs (d + 0)) mm_am kX8_sift 0 0 none Q 24 [some (.ref 33), some (.int v1), some (.int v2), none, none] [] (hp p s q I J) 0 0
def w_X8_sift_81 (SL : Nat) (xs : Nat → Int32) (d : Nat) (p s q : Nat) (Q : Option Value → mm_H → Prop) (v1 : Int32) (v2 : Int32) (v3 : Int32) (v4 : Int32) (I : Nat → Nat → Int32) (J : Nat → Nat → Int64) : Prop := mm_w SL xs (mm_s SL xs (d + 0)) mm_am kX8_sift 0 0 none Q 81 [some (.ref 33), some (.int v1), some (.int v2), some (.int v3), some (.int v4)] [] (hp p s q I J) 0 0
theorem sg_X8_sift {SL : Nat} {xs : Nat → Int32} {d : Nat} {p s q : Nat} {Q : Option Value → mm_H → Prop} {a0 : Int32} {I : Nat → Nat → Int32} {J : Nat → Nat → Int64}  (k : w_X8_sift_2 SL xs d p s q Q a0 (Int32.ofInt 0) I J) : mm_s SL xs (d + 1) 95 [.ref 33, .int a0] (hp p s q I J) Q := by
  refine e_X8_sift rfl ?_
  refine sp_iconst 1 rfl rfl ?_
  refine sp_istore_n 2 rfl rfl rfl ?_
  exact k
theorem sg_X8_sift_2 {SL : Nat} {xs : Nat → Int32} {d : Nat} {p s q : Nat} {Q : Option Value → mm_H → Prop} {v1 : Int32} {v2 : Int32} {I : Nat → Nat → Int32} {J : Nat → Nat → Int64}  (k : (((Int32.ofInt 4) ≤ v2 → w_X8_sift_24 SL xs d p s q Q v1 (Int32.ofInt 0) I J) ∧ (¬ ((Int32.ofInt 4) ≤ v2) → (vp_in v2 4 ∧ w_X8_sift_2 SL xs d p s q Q v1 (v2 + Int32.ofInt 1) I (mm_u J 37 ((v2).toNatClampNeg) (Int64.ofInt (-1))))))) : w_X8_sift_2 SL xs d p s q Q v1 v2 I J := by
  unfold w_X8_sift_2
  refine sp_iload_n 3 rfl rfl rfl ?_
  refine sp_iconst 4 rfl rfl ?_
  refine sp_ic_ge 7 rfl rfl (fun q => ?_) (fun q => ?_)
  · have k := k.1 q
    refine sp_iconst 23 rfl rfl ?_
    refine sp_istore_n 24 rfl rfl rfl ?_
    exact k
  · have k := k.2 q
    refine sp_aload_n 8 rfl rfl rfl ?_
    refine hq_getR 11 rfl rfl rfl rfl ?_
    refine sp_iload_n 12 rfl rfl rfl ?_
    refine sp_ldc2 15 rfl rfl ?_
    have n1_ := k.1
    have k := k.2
    refine hq_last 16 rfl rfl n1_ rfl ?_
    refine sp_iinc 19 rfl rfl rfl rfl ?_
    refine sp_goto rfl ?_
    exact k
theorem sg_X8_sift_24 {SL : Nat} {xs : Nat → Int32} {d : Nat} {p s q : Nat} {Q : Option Value → mm_H → Prop} {v1 : Int32} {v2 : Int32} {I : Nat → Nat → Int32} {J : Nat → Nat → Int64}  (k : (((I 33 0) ≤ v2 → Q none (hp p s q I J)) ∧ (¬ ((I 33 0) ≤ v2) → (((Int32.ofInt 40) ≤ v2 → Q none (hp p s q I J)) ∧ (¬ ((Int32.ofInt 40) ≤ v2) → (vp_in v2 40 ∧ (((I 35 ((v2).toNatClampNeg)) = (Int32.ofInt (-1)) → ((v1 < (I 34 ((v2).toNatClampNeg)) → w_X8_sift_24 SL xs d p s q Q v1 (v2 + Int32.ofInt 1) I J) ∧ (¬ (v1 < (I 34 ((v2).toNatClampNeg))) → w_X8_sift_81 SL xs d p s q Q v1 v2 (Int32.ofInt 0) (Int32.ofInt 0) I J))) ∧ (¬ ((I 35 ((v2).toNatClampNeg)) = (Int32.ofInt (-1))) → ((v1 < (I 35 ((v2).toNatClampNeg)) → ((v1 < (I 34 ((v2).toNatClampNeg)) → w_X8_sift_24 SL xs d p s q Q v1 (v2 + Int32.ofInt 1) I J) ∧ (¬ (v1 < (I 34 ((v2).toNatClampNeg))) → w_X8_sift_81 SL xs d p s q Q v1 v2 (Int32.ofInt 0) (Int32.ofInt 0) I J))) ∧ (¬ (v1 < (I 35 ((v2).toNatClampNeg))) → ((v1 < (I 34 ((v2).toNatClampNeg)) → w_X8_sift_24 SL xs d p s q Q v1 (v2 + Int32.ofInt 1) I J) ∧ (¬ (v1 < (I 34 ((v2).toNatClampNeg))) → w_X8_sift_24 SL xs d p s q Q v1 (v2 + Int32.ofInt 1) I J)))))))))))) : w_X8_sift_24 SL xs d p s q Q v1 v2 I J := by
  unfold w_X8_sift_24
  refine sp_iload_n 25 rfl rfl rfl ?_
  refine sp_aload_n 26 rfl rfl rfl ?_
  refine hq_getI 29 rfl rfl rfl ?_
  refine sp_ic_ge 32 rfl rfl (fun q => ?_) (fun q => ?_)
  · have k := k.1 q
    exact st_vret rfl rfl (Nat.le_refl _) (Nat.le_refl _) k
  · have k := k.2 q
    refine sp_iload_n 33 rfl rfl rfl ?_
    refine sp_bipush 35 rfl rfl ?_
    refine sp_I (y := Int32.ofInt 40) rfl ?_
    refine sp_ic_ge 38 rfl rfl (fun q => ?_) (fun q => ?_)
    · have k := k.1 q
      exact st_vret rfl rfl (Nat.le_refl _) (Nat.le_refl _) k
    · have k := k.2 q
      refine sp_aload_n 39 rfl rfl rfl ?_
      refine hq_getR 42 rfl rfl rfl rfl ?_
      refine sp_iload_n 43 rfl rfl rfl ?_
      have n2_ := k.1
      have k := k.2
      refine hq_iald 44 rfl rfl n2_ rfl ?_
      refine sp_iconst 45 rfl rfl ?_
      refine sp_ic_eq 48 rfl rfl (fun q => ?_) (fun q => ?_)
      · have k := k.1 q
        refine sp_iconst 63 rfl rfl ?_
        refine sp_istore_n 64 rfl rfl rfl ?_
        refine sp_aload_n 65 rfl rfl rfl ?_
        refine hq_getR 68 rfl rfl rfl rfl ?_
        refine sp_iload_n 69 rfl rfl rfl ?_
        refine hq_iald 70 rfl rfl n2_ rfl ?_
        refine sp_iload_n 71 rfl rfl rfl ?_
        refine sp_ic_gt 74 rfl rfl (fun q => ?_) (fun q => ?_)
        · have k := k.1 q
          refine sp_iinc 117 rfl rfl rfl rfl ?_
          refine sp_goto rfl ?_
          refine st_wk (L1 := [some (.ref 33), some (.int v1), some (.int (v2 + Int32.ofInt 1)), none, none]) ⟨.inr rfl, .inr rfl, .inr rfl, .inl rfl, .inl rfl, trivial⟩ ?_
          exact k
        · have k := k.2 q
          refine sp_iload_n 75 rfl rfl rfl ?_
          refine sp_if_ne 78 rfl rfl (fun q => absurd q (by decide)) (fun _ => ?_)
          refine sp_iconst 79 rfl rfl ?_
          refine sp_istore 81 rfl rfl rfl ?_
          exact k
      · have k := k.2 q
        refine sp_aload_n 49 rfl rfl rfl ?_
        refine hq_getR 52 rfl rfl rfl rfl ?_
        refine sp_iload_n 53 rfl rfl rfl ?_
        refine hq_iald 54 rfl rfl n2_ rfl ?_
        refine sp_iload_n 55 rfl rfl rfl ?_
        refine sp_ic_gt 58 rfl rfl (fun q => ?_) (fun q => ?_)
        · have k := k.1 q
          refine sp_iconst 63 rfl rfl ?_
          refine sp_istore_n 64 rfl rfl rfl ?_
          refine sp_aload_n 65 rfl rfl rfl ?_
          refine hq_getR 68 rfl rfl rfl rfl ?_
          refine sp_iload_n 69 rfl rfl rfl ?_
          refine hq_iald 70 rfl rfl n2_ rfl ?_
          refine sp_iload_n 71 rfl rfl rfl ?_
          refine sp_ic_gt 74 rfl rfl (fun q => ?_) (fun q => ?_)
          · have k := k.1 q
            refine sp_iinc 117 rfl rfl rfl rfl ?_
            refine sp_goto rfl ?_
            refine st_wk (L1 := [some (.ref 33), some (.int v1), some (.int (v2 + Int32.ofInt 1)), none, none]) ⟨.inr rfl, .inr rfl, .inr rfl, .inl rfl, .inl rfl, trivial⟩ ?_
            exact k
          · have k := k.2 q
            refine sp_iload_n 75 rfl rfl rfl ?_
            refine sp_if_ne 78 rfl rfl (fun q => absurd q (by decide)) (fun _ => ?_)
            refine sp_iconst 79 rfl rfl ?_
            refine sp_istore 81 rfl rfl rfl ?_
            exact k
        · have k := k.2 q
          refine sp_iconst 59 rfl rfl ?_
          refine sp_goto rfl ?_
          refine sp_istore_n 64 rfl rfl rfl ?_
          refine sp_aload_n 65 rfl rfl rfl ?_
          refine hq_getR 68 rfl rfl rfl rfl ?_
          refine sp_iload_n 69 rfl rfl rfl ?_
          refine hq_iald 70 rfl rfl n2_ rfl ?_
          refine sp_iload_n 71 rfl rfl rfl ?_
          refine sp_ic_gt 74 rfl rfl (fun q => ?_) (fun q => ?_)
          · have k := k.1 q
            refine sp_iinc 117 rfl rfl rfl rfl ?_
            refine sp_goto rfl ?_
            refine st_wk (L1 := [some (.ref 33), some (.int v1), some (.int (v2 + Int32.ofInt 1)), none, none]) ⟨.inr rfl, .inr rfl, .inr rfl, .inl rfl, .inl rfl, trivial⟩ ?_
            exact k
          · have k := k.2 q
            refine sp_iload_n 75 rfl rfl rfl ?_
            refine sp_if_ne 78 rfl rfl (fun _ => ?_) (fun q => absurd q (by decide))
            refine sp_iinc 117 rfl rfl rfl rfl ?_
            refine sp_goto rfl ?_
            refine st_wk (L1 := [some (.ref 33), some (.int v1), some (.int (v2 + Int32.ofInt 1)), none, none]) ⟨.inr rfl, .inr rfl, .inr rfl, .inl rfl, .inl rfl, trivial⟩ ?_
            exact k
theorem sg_X8_sift_81 {SL : Nat} {xs : Nat → Int32} {d : Nat} {p s q : Nat} {Q : Option Value → mm_H → Prop} {v1 : Int32} {v2 : Int32} {v3 : Int32} {v4 : Int32} {I : Nat → Nat → Int32} {J : Nat → Nat → Int64}  (k : (((Int32.ofInt 4) ≤ v4 → w_X8_sift_24 SL xs d p s q Q v1 (v2 + Int32.ofInt 1) I J) ∧ (¬ ((Int32.ofInt 4) ≤ v4) → (vp_in v4 4 ∧ (vp_in ((v2 * (Int32.ofInt 4)) + v4) 160 ∧ w_X8_sift_81 SL xs d p s q Q v1 v2 v3 (v4 + Int32.ofInt 1) I (mm_u J 37 ((v4).toNatClampNeg) ((J 37 ((v4).toNatClampNeg)) &&& (J 36 ((((v2 * (Int32.ofInt 4)) + v4)).toNatClampNeg))))))))) : w_X8_sift_81 SL xs d p s q Q v1 v2 v3 v4 I J := by
  unfold w_X8_sift_81
  refine sp_iload 83 rfl rfl rfl ?_
  refine sp_iconst 84 rfl rfl ?_
  refine sp_ic_ge 87 rfl rfl (fun q => ?_) (fun q => ?_)
  · have k := k.1 q
    refine sp_iinc 117 rfl rfl rfl rfl ?_
    refine sp_goto rfl ?_
    refine st_wk (L1 := [some (.ref 33), some (.int v1), some (.int (v2 + Int32.ofInt 1)), none, none]) ⟨.inr rfl, .inr rfl, .inr rfl, .inl rfl, .inl rfl, trivial⟩ ?_
    exact k
  · have k := k.2 q
    refine sp_aload_n 88 rfl rfl rfl ?_
    refine hq_getR 91 rfl rfl rfl rfl ?_
    refine sp_iload 93 rfl rfl rfl ?_
    refine sp_dup2 94 rfl rfl rfl rfl ?_
    have n3_ := k.1
    have k := k.2
    refine hq_lald 95 rfl rfl n3_ rfl ?_
    refine sp_aload_n 96 rfl rfl rfl ?_
    refine hq_getR 99 rfl rfl rfl rfl ?_
    refine sp_iload_n 100 rfl rfl rfl ?_
    refine sp_iconst 101 rfl rfl ?_
    refine sp_imul 102 rfl rfl ?_
    refine sp_iload 104 rfl rfl rfl ?_
    refine sp_iadd 105 rfl rfl ?_
    have n4_ := k.1
    have k := k.2
    refine hq_lald 106 rfl rfl n4_ rfl ?_
    refine sp_land 107 rfl rfl ?_
    refine hq_last 108 rfl rfl n3_ rfl ?_
    refine sp_iinc 111 rfl rfl rfl rfl ?_
    refine sp_goto rfl ?_
    exact k
theorem sg_X8_isFit {SL : Nat} {xs : Nat → Int32} {d : Nat} {p s q : Nat} {Q : Option Value → mm_H → Prop} {a0 : Int32} {I : Nat → Nat → Int32} {J : Nat → Nat → Int64}  (k : ((a0 < (Int32.ofInt 1) → Q (some (.int (Int32.ofInt 0))) (hp p s q I J)) ∧ (¬ (a0 < (Int32.ofInt 1)) → (((Int32.ofInt 200) < a0 → Q (some (.int (Int32.ofInt 0))) (hp p s q I J)) ∧ (¬ ((Int32.ofInt 200) < a0) → (vp_in (a0 / (Int32.ofInt 64)) 4 ∧ (((((((J 37 (((a0 / (Int32.ofInt 64))).toNatClampNeg))).toUInt64 >>> (((a0 - a0 / (Int32.ofInt 64) * (Int32.ofInt 64))).toInt64.toUInt64 &&& Int64.toUInt64 63)).toInt64) &&& (Int64.ofInt 1)) = (Int64.ofInt 0) → Q (some (.int (Int32.ofInt 0))) (hp p s q I J)) ∧ (¬ ((((((J 37 (((a0 / (Int32.ofInt 64))).toNatClampNeg))).toUInt64 >>> (((a0 - a0 / (Int32.ofInt 64) * (Int32.ofInt 64))).toInt64.toUInt64 &&& Int64.toUInt64 63)).toInt64) &&& (Int64.ofInt 1)) = (Int64.ofInt 0)) → Q (some (.int (Int32.ofInt 1))) (hp p s q I J))))))))) : mm_s SL xs (d + 1) 96 [.ref 33, .int a0] (hp p s q I J) Q := by
  refine e_X8_isFit rfl ?_
  refine sp_iload_n 1 rfl rfl rfl ?_
  refine sp_iconst 2 rfl rfl ?_
  refine sp_ic_lt 5 rfl rfl (fun q => ?_) (fun q => ?_)
  · have k := k.1 q
    refine sp_iconst 38 rfl rfl ?_
    exact st_zret rfl rfl (by decide) (Nat.le_refl _) (Nat.le_refl _) k
  · have k := k.2 q
    refine sp_iload_n 6 rfl rfl rfl ?_
    refine sp_sipush 9 rfl rfl ?_
    refine sp_I (y := Int32.ofInt 200) rfl ?_
    refine sp_ic_gt 12 rfl rfl (fun q => ?_) (fun q => ?_)
    · have k := k.1 q
      refine sp_iconst 38 rfl rfl ?_
      exact st_zret rfl rfl (by decide) (Nat.le_refl _) (Nat.le_refl _) k
    · have k := k.2 q
      refine sp_aload_n 13 rfl rfl rfl ?_
      refine hq_getR 16 rfl rfl rfl rfl ?_
      refine sp_iload_n 17 rfl rfl rfl ?_
      refine sp_bipush 19 rfl rfl ?_
      refine sp_I (y := Int32.ofInt 64) rfl ?_
      refine sp_idiv 20 rfl (by decide) rfl ?_
      have n1_ := k.1
      have k := k.2
      refine hq_lald 21 rfl rfl n1_ rfl ?_
      refine sp_iload_n 22 rfl rfl rfl ?_
      refine sp_bipush 24 rfl rfl ?_
      refine sp_I (y := Int32.ofInt 64) rfl ?_
      refine sp_irem 25 rfl (by decide) rfl ?_
      refine sp_lushr 26 rfl rfl ?_
      refine sp_lconst 27 rfl rfl ?_
      refine sp_J (y := Int64.ofInt 1) rfl ?_
      refine sp_land 28 rfl rfl ?_
      refine sp_lconst 29 rfl rfl ?_
      refine sp_J (y := Int64.ofInt 0) rfl ?_
      refine sp_lcmp 30 rfl rfl ?_
      refine sp_if_eq 33 rfl rfl (fun q => ?_) (fun q => ?_)
      · have k := k.1 ((lg_cmp_eq _ _).mp q)
        refine sp_iconst 38 rfl rfl ?_
        exact st_zret rfl rfl (by decide) (Nat.le_refl _) (Nat.le_refl _) k
      · have k := k.2 (fun z => q ((lg_cmp_eq _ _).mpr z))
        refine sp_iconst 34 rfl rfl ?_
        refine sp_goto rfl ?_
        exact st_zret rfl rfl (by decide) (Nat.le_refl _) (Nat.le_refl _) k
def w_X9_addFour_3 (SL : Nat) (xs : Nat → Int32) (d : Nat) (p s q : Nat) (Q : Option Value → mm_H → Prop) (v1 : Int32) (v2 : Int32) (I : Nat → Nat → Int32) (J : Nat → Nat → Int64) : Prop := mm_w SL xs (mm_s SL xs (d + 0)) mm_am kX9_addFour 0 0 none Q 3 [some (.ref 4), some (.int v1), some (.int v2)] [] (hp p s q I J) 0 0
theorem sg_X9_addFour {SL : Nat} {xs : Nat → Int32} {d : Nat} {p s q : Nat} {Q : Option Value → mm_H → Prop} {a0 : Int32} {I : Nat → Nat → Int32} {J : Nat → Nat → Int64}  (k : w_X9_addFour_3 SL xs d p s q Q a0 (Int32.ofInt 24) I J) : mm_s SL xs (d + 1) 103 [.ref 4, .int a0] (hp p s q I J) Q := by
  refine e_X9_addFour rfl ?_
  refine sp_bipush 2 rfl rfl ?_
  refine sp_I (y := Int32.ofInt 24) rfl ?_
  refine sp_istore_n 3 rfl rfl rfl ?_
  exact k
theorem sg_X9_addFour_3 {SL : Nat} {xs : Nat → Int32} {d : Nat} {p s q : Nat} {Q : Option Value → mm_H → Prop} {v1 : Int32} {v2 : Int32} {I : Nat → Nat → Int32} {J : Nat → Nat → Int64}  (k : ((v2 < Int32.ofInt 0 → Q none (hp p s q I J)) ∧ (¬ (v2 < Int32.ofInt 0) → (((Int32.ofInt 1200) ≤ (I 4 1) → Q none (hp p s q I J)) ∧ (¬ ((Int32.ofInt 1200) ≤ (I 4 1)) → (vp_in (I 4 1) 1200 ∧ w_X9_addFour_3 SL xs d p s q Q v1 (v2 + Int32.ofInt (-8)) (mm_u (mm_u I 5 (((I 4 1)).toNatClampNeg) (((((v1).toUInt32 >>> ((v2).toUInt32 &&& Int32.toUInt32 31)).toInt32).toInt8.toInt32).toInt8.toInt32)) 4 1 ((I 4 1) + (Int32.ofInt 1))) J)))))) : w_X9_addFour_3 SL xs d p s q Q v1 v2 I J := by
  unfold w_X9_addFour_3
  refine sp_iload_n 4 rfl rfl rfl ?_
  refine sp_if_lt 7 rfl rfl (fun q => ?_) (fun q => ?_)
  · have k := k.1 q
    exact st_vret rfl rfl (Nat.le_refl _) (Nat.le_refl _) k
  · have k := k.2 q
    refine sp_aload_n 8 rfl rfl rfl ?_
    refine hq_getI 11 rfl rfl rfl ?_
    refine sp_aload_n 12 rfl rfl rfl ?_
    refine hq_getR 15 rfl rfl rfl rfl ?_
    refine hq_alen 16 rfl rfl rfl rfl ?_
    refine sp_I (y := Int32.ofInt 1200) rfl ?_
    refine sp_ic_ge 19 rfl rfl (fun q => ?_) (fun q => ?_)
    · have k := k.1 q
      exact st_vret rfl rfl (Nat.le_refl _) (Nat.le_refl _) k
    · have k := k.2 q
      refine sp_aload_n 20 rfl rfl rfl ?_
      refine hq_getR 23 rfl rfl rfl rfl ?_
      refine sp_aload_n 24 rfl rfl rfl ?_
      refine hq_getI 27 rfl rfl rfl ?_
      refine sp_iload_n 28 rfl rfl rfl ?_
      refine sp_iload_n 29 rfl rfl rfl ?_
      refine sp_iushr 30 rfl rfl ?_
      refine sp_i2b 31 rfl rfl ?_
      have n1_ := k.1
      have k := k.2
      refine hq_bast 32 rfl rfl n1_ rfl ?_
      refine sp_aload_n 33 rfl rfl rfl ?_
      refine sp_dup 34 rfl rfl rfl ?_
      refine hq_getI 37 rfl rfl rfl ?_
      refine sp_I (y := (I 4 1)) (by simp [mm_u]) ?_
      refine sp_iconst 38 rfl rfl ?_
      refine sp_iadd 39 rfl rfl ?_
      refine hq_putI 42 rfl rfl rfl ?_
      refine sp_iinc 45 rfl rfl rfl rfl ?_
      refine sp_goto rfl ?_
      exact k
def w_X9_kindOf_2 (SL : Nat) (xs : Nat → Int32) (d : Nat) (p s q : Nat) (Q : Option Value → mm_H → Prop) (v1 : Int64) (v3 : Int32) (I : Nat → Nat → Int32) (J : Nat → Nat → Int64) : Prop := mm_w SL xs (mm_s SL xs (d + 0)) mm_am kX9_kindOf 0 0 (some .int) Q 2 [some (.ref 4), some (.long v1), none, some (.int v3)] [] (hp p s q I J) 0 0
theorem sg_X9_kindOf {SL : Nat} {xs : Nat → Int32} {d : Nat} {p s q : Nat} {Q : Option Value → mm_H → Prop} {a0 : Int64} {I : Nat → Nat → Int32} {J : Nat → Nat → Int64}  (k : w_X9_kindOf_2 SL xs d p s q Q a0 (Int32.ofInt 0) I J) : mm_s SL xs (d + 1) 108 [.ref 4, .long a0] (hp p s q I J) Q := by
  refine e_X9_kindOf rfl ?_
  refine sp_iconst 1 rfl rfl ?_
  refine sp_istore_n 2 rfl rfl rfl ?_
  exact k
theorem sg_X9_kindOf_2 {SL : Nat} {xs : Nat → Int32} {d : Nat} {p s q : Nat} {Q : Option Value → mm_H → Prop} {v1 : Int64} {v3 : Int32} {I : Nat → Nat → Int32} {J : Nat → Nat → Int64}  (k : (((Int32.ofInt 22) ≤ v3 → Q (some (.int (Int32.ofInt 3))) (hp p s q I J)) ∧ (¬ ((Int32.ofInt 22) ≤ v3) → (vp_in v3 22 ∧ (((J 6 ((v3).toNatClampNeg)) = v1 → Q (some (.int ((Int32.ofInt 128) + v3))) (hp p s q I J)) ∧ (¬ ((J 6 ((v3).toNatClampNeg)) = v1) → w_X9_kindOf_2 SL xs d p s q Q v1 (v3 + Int32.ofInt 1) I J)))))) : w_X9_kindOf_2 SL xs d p s q Q v1 v3 I J := by
  unfold w_X9_kindOf_2
  refine sp_iload_n 3 rfl rfl rfl ?_
  refine sp_aload_n 4 rfl rfl rfl ?_
  refine hq_getR 7 rfl rfl rfl rfl ?_
  refine hq_alen 8 rfl rfl rfl rfl ?_
  refine sp_I (y := Int32.ofInt 22) rfl ?_
  refine sp_ic_ge 11 rfl rfl (fun q => ?_) (fun q => ?_)
  · have k := k.1 q
    refine sp_iconst 35 rfl rfl ?_
    exact st_iret rfl rfl (Nat.le_refl _) (Nat.le_refl _) k
  · have k := k.2 q
    refine sp_aload_n 12 rfl rfl rfl ?_
    refine hq_getR 15 rfl rfl rfl rfl ?_
    refine sp_iload_n 16 rfl rfl rfl ?_
    have n1_ := k.1
    have k := k.2
    refine hq_lald 17 rfl rfl n1_ rfl ?_
    refine sp_lload_n 18 rfl rfl rfl ?_
    refine sp_lcmp 19 rfl rfl ?_
    refine sp_if_ne 22 rfl rfl (fun q => ?_) (fun q => ?_)
    · have k := k.2 (fun z => q ((lg_cmp_eq _ _).mpr z))
      refine sp_iinc 31 rfl rfl rfl rfl ?_
      refine sp_goto rfl ?_
      exact k
    · have k := k.1 ((lg_cmp_eq _ _).mp q)
      refine sp_sipush 25 rfl rfl ?_
      refine sp_I (y := Int32.ofInt 128) rfl ?_
      refine sp_iload_n 26 rfl rfl rfl ?_
      refine sp_iadd 27 rfl rfl ?_
      exact st_iret rfl rfl (Nat.le_refl _) (Nat.le_refl _) k
theorem sg_X9_byteAt {SL : Nat} {xs : Nat → Int32} {d : Nat} {p s q : Nat} {Q : Option Value → mm_H → Prop} {a0 : Int32} {I : Nat → Nat → Int32} {J : Nat → Nat → Int64}  (k : ((a0 < Int32.ofInt 0 → Q (some (.int (Int32.ofInt 0))) (hp p s q I J)) ∧ (¬ (a0 < Int32.ofInt 0) → (((I 4 1) ≤ a0 → Q (some (.int (Int32.ofInt 0))) (hp p s q I J)) ∧ (¬ ((I 4 1) ≤ a0) → (((Int32.ofInt 1200) ≤ a0 → Q (some (.int (Int32.ofInt 0))) (hp p s q I J)) ∧ (¬ ((Int32.ofInt 1200) ≤ a0) → (vp_in a0 1200 ∧ Q (some (.int ((I 5 ((a0).toNatClampNeg)) &&& (Int32.ofInt 255)))) (hp p s q I J))))))))) : mm_s SL xs (d + 1) 109 [.ref 4, .int a0] (hp p s q I J) Q := by
  refine e_X9_byteAt rfl ?_
  refine sp_iload_n 1 rfl rfl rfl ?_
  refine sp_if_lt 4 rfl rfl (fun q => ?_) (fun q => ?_)
  · have k := k.1 q
    refine sp_iconst 35 rfl rfl ?_
    exact st_iret rfl rfl (Nat.le_refl _) (Nat.le_refl _) k
  · have k := k.2 q
    refine sp_iload_n 5 rfl rfl rfl ?_
    refine sp_aload_n 6 rfl rfl rfl ?_
    refine hq_getI 9 rfl rfl rfl ?_
    refine sp_ic_ge 12 rfl rfl (fun q => ?_) (fun q => ?_)
    · have k := k.1 q
      refine sp_iconst 35 rfl rfl ?_
      exact st_iret rfl rfl (Nat.le_refl _) (Nat.le_refl _) k
    · have k := k.2 q
      refine sp_iload_n 13 rfl rfl rfl ?_
      refine sp_aload_n 14 rfl rfl rfl ?_
      refine hq_getR 17 rfl rfl rfl rfl ?_
      refine hq_alen 18 rfl rfl rfl rfl ?_
      refine sp_I (y := Int32.ofInt 1200) rfl ?_
      refine sp_ic_ge 21 rfl rfl (fun q => ?_) (fun q => ?_)
      · have k := k.1 q
        refine sp_iconst 35 rfl rfl ?_
        exact st_iret rfl rfl (Nat.le_refl _) (Nat.le_refl _) k
      · have k := k.2 q
        refine sp_aload_n 22 rfl rfl rfl ?_
        refine hq_getR 25 rfl rfl rfl rfl ?_
        refine sp_iload_n 26 rfl rfl rfl ?_
        have n1_ := k.1
        have k := k.2
        refine hq_bald 27 rfl rfl n1_ rfl ?_
        refine sp_sipush 30 rfl rfl ?_
        refine sp_I (y := Int32.ofInt 255) rfl ?_
        refine sp_iand 31 rfl rfl ?_
        refine sp_goto rfl ?_
        exact st_iret rfl rfl (Nat.le_refl _) (Nat.le_refl _) k
theorem sg_J9_floorMod_7cf53 {SL : Nat} {xs : Nat → Int32} {d : Nat} {p s q : Nat} {Q : Option Value → mm_H → Prop} {a0 : Int32} {a1 : Int32} {I : Nat → Nat → Int32} {J : Nat → Nat → Int64}  (k : (¬ a1 = 0 ∧ ((Int32.ofInt 0 ≤ (a0 ^^^ a1) → Q (some (.int (a0 - a0 / a1 * a1))) (hp p s q I J)) ∧ (¬ (Int32.ofInt 0 ≤ (a0 ^^^ a1)) → (((a0 - a0 / a1 * a1) = Int32.ofInt 0 → Q (some (.int (a0 - a0 / a1 * a1))) (hp p s q I J)) ∧ (¬ ((a0 - a0 / a1 * a1) = Int32.ofInt 0) → Q (some (.int ((a0 - a0 / a1 * a1) + a1))) (hp p s q I J))))))) : mm_s SL xs (d + 1) 277 [.int a0, .int a1] (hp p s q I J) Q := by
  refine e_J9_floorMod_7cf53 rfl ?_
  refine sp_iload_n 1 rfl rfl rfl ?_
  refine sp_iload_n 2 rfl rfl rfl ?_
  have n1_ := k.1
  have k := k.2
  refine sp_irem 3 rfl n1_ rfl ?_
  refine sp_istore_n 4 rfl rfl rfl ?_
  refine sp_iload_n 5 rfl rfl rfl ?_
  refine sp_iload_n 6 rfl rfl rfl ?_
  refine sp_ixor 7 rfl rfl ?_
  refine sp_if_ge 10 rfl rfl (fun q => ?_) (fun q => ?_)
  · have k := k.1 q
    refine sp_iload_n 19 rfl rfl rfl ?_
    exact st_iret rfl rfl (Nat.le_refl _) (Nat.le_refl _) k
  · have k := k.2 q
    refine sp_iload_n 11 rfl rfl rfl ?_
    refine sp_if_eq 14 rfl rfl (fun q => ?_) (fun q => ?_)
    · have k := k.1 q
      refine sp_iload_n 19 rfl rfl rfl ?_
      exact st_iret rfl rfl (Nat.le_refl _) (Nat.le_refl _) k
    · have k := k.2 q
      refine sp_iload_n 15 rfl rfl rfl ?_
      refine sp_iload_n 16 rfl rfl rfl ?_
      refine sp_iadd 17 rfl rfl ?_
      exact st_iret rfl rfl (Nat.le_refl _) (Nat.le_refl _) k
theorem sg_X1_startFrom {SL : Nat} {xs : Nat → Int32} {d : Nat} {p s q : Nat} {Q : Option Value → mm_H → Prop} {o : Nat} {a0 : Nat} {a1 : Int32} {I : Nat → Nat → Int32} {J : Nat → Nat → Int64} (h_a0 : isP a0) (h_o : isC o) (k : (mm_s SL xs (d + 1) 281 [.ref (o + 1), .int (Int32.ofInt 0)] (hp p s q (mm_u (mm_u (mm_u (mm_u (mm_u (mm_u I o 2 (Int32.ofInt 0)) o 3 (Int32.ofInt (-1))) o 4 (Int32.ofInt (-1))) o 5 (Int32.ofInt 0)) o 9 a1) o 10 (Int32.ofInt 0)) (mm_u J o 1 (sx_X6_all (I a0 0)))) (fun r_ h_ => ∃ I1 J1, r_ = none ∧ h_ = hp p s q I1 J1 ∧ (mm_s SL xs (d + 1) 281 [.ref (o + 2), .int (Int32.ofInt (-1))] (hp p s q I1 J1) (fun r_ h_ => ∃ I2 J2, r_ = none ∧ h_ = hp p s q I2 J2 ∧ Q none (hp p s q I2 J2)))))) : mm_s SL xs (d + 2) 13 [.ref o, .ref a0, .int a1] (hp p s q I J) Q := by
  refine e_X1_startFrom rfl ?_
  refine sp_aload_n 1 rfl rfl rfl ?_
  refine sp_aload_n 2 rfl rfl rfl ?_
  refine hq_getI 5 rfl (kP0 h_a0) rfl ?_
  refine sc_S 8 rfl rfl rfl rfl (Nat.le_refl _) (Nat.le_refl _) rfl ?_
  refine cx_X6_all ?_
  refine hq_putJ 11 rfl (kC0 h_o) rfl ?_
  refine sp_aload_n 12 rfl rfl rfl ?_
  refine sp_iconst 13 rfl rfl ?_
  refine hq_putI 16 rfl (kC0 h_o) rfl ?_
  refine sp_aload_n 17 rfl rfl rfl ?_
  refine sp_iconst 18 rfl rfl ?_
  refine hq_putI 21 rfl (kC0 h_o) rfl ?_
  refine sp_aload_n 22 rfl rfl rfl ?_
  refine sp_iconst 23 rfl rfl ?_
  refine hq_putI 26 rfl (kC0 h_o) rfl ?_
  refine sp_aload_n 27 rfl rfl rfl ?_
  refine sp_iconst 28 rfl rfl ?_
  refine hq_putI 31 rfl (kC0 h_o) rfl ?_
  refine sp_aload_n 32 rfl rfl rfl ?_
  refine sp_iload_n 33 rfl rfl rfl ?_
  refine hq_putI 36 rfl (kC0 h_o) rfl ?_
  refine sp_aload_n 37 rfl rfl rfl ?_
  refine sp_iconst 38 rfl rfl ?_
  refine hq_putI 41 rfl (kC0 h_o) rfl ?_
  refine sp_aload_n 42 rfl rfl rfl ?_
  refine hq_getR 45 rfl (kC0 h_o) (rC1 h_o) rfl ?_
  refine sp_iconst 46 rfl rfl ?_
  refine sc_S 49 rfl rfl rfl rfl (Nat.le_refl _) (Nat.le_refl _) rfl ?_
  refine mm_s_mono _ _ _ _ _ _ ?_ k
  rintro r_ h_ ⟨I1, J1, rfl, rfl, k⟩
  refine sp_aload_n 50 rfl rfl rfl ?_
  refine hq_getR 53 rfl (kC0 h_o) (rC2 h_o) rfl ?_
  refine sp_iconst 54 rfl rfl ?_
  refine sc_S 57 rfl rfl rfl rfl (Nat.le_refl _) (Nat.le_refl _) rfl ?_
  refine mm_s_mono _ _ _ _ _ _ ?_ k
  rintro r_ h_ ⟨I2, J2, rfl, rfl, k⟩
  exact st_vret rfl rfl (Nat.le_refl _) (Nat.le_refl _) k
theorem sg_X1_comeTo {SL : Nat} {xs : Nat → Int32} {d : Nat} {p s q : Nat} {Q : Option Value → mm_H → Prop} {o : Nat} {a0 : Int32} {I : Nat → Nat → Int32} {J : Nat → Nat → Int64} (h_o : isC o) (k : ((a0 < Int32.ofInt 0 → Q none (hp p s q I J)) ∧ (¬ (a0 < Int32.ofInt 0) → (((Int32.ofInt 60) ≤ a0 → Q none (hp p s q I J)) ∧ (¬ ((Int32.ofInt 60) ≤ a0) → (vp_in a0 60 ∧ Q none (hp p s q (mm_u I (o + 1) ((a0).toNatClampNeg) (Int32.ofInt 0)) (mm_u J o 1 ((J o 1) ||| (sx_X6_bit a0)))))))))) : mm_s SL xs (d + 2) 18 [.ref o, .int a0] (hp p s q I J) Q := by
  refine e_X1_comeTo rfl ?_
  refine sp_iload_n 1 rfl rfl rfl ?_
  refine sp_if_lt 4 rfl rfl (fun q => ?_) (fun q => ?_)
  · have k := k.1 q
    exact st_vret rfl rfl (Nat.le_refl _) (Nat.le_refl _) k
  · have k := k.2 q
    refine sp_iload_n 5 rfl rfl rfl ?_
    refine sp_bipush 7 rfl rfl ?_
    refine sp_I (y := Int32.ofInt 60) rfl ?_
    refine sp_ic_ge 10 rfl rfl (fun q => ?_) (fun q => ?_)
    · have k := k.1 q
      exact st_vret rfl rfl (Nat.le_refl _) (Nat.le_refl _) k
    · have k := k.2 q
      refine sp_aload_n 11 rfl rfl rfl ?_
      refine sp_dup 12 rfl rfl rfl ?_
      refine hq_getJ 15 rfl (kC0 h_o) rfl ?_
      refine sp_iload_n 16 rfl rfl rfl ?_
      refine sc_S 19 rfl rfl rfl rfl (Nat.le_refl _) (Nat.le_refl _) rfl ?_
      refine cx_X6_bit ?_
      refine sp_lor 20 rfl rfl ?_
      refine hq_putJ 23 rfl (kC0 h_o) rfl ?_
      refine sp_aload_n 24 rfl rfl rfl ?_
      refine hq_getR 27 rfl (kC0 h_o) (rC1 h_o) rfl ?_
      refine sp_iload_n 28 rfl rfl rfl ?_
      refine sp_iconst 29 rfl rfl ?_
      have n1_ := k.1
      have k := k.2
      refine hq_iast 30 rfl (kC1 h_o) n1_ rfl ?_
      exact st_vret rfl rfl (Nat.le_refl _) (Nat.le_refl _) k
theorem sg_X2_clear {SL : Nat} {xs : Nat → Int32} {d : Nat} {p s q : Nat} {Q : Option Value → mm_H → Prop}  {I : Nat → Nat → Int32} {J : Nat → Nat → Int64}  (k : (mm_s SL xs (d + 1) 281 [.ref 32, .int (Int32.ofInt 0)] (hp p s q I J) (fun r_ h_ => ∃ I1 J1, r_ = none ∧ h_ = hp p s q I1 J1 ∧ Q none (hp p s q (mm_u I1 31 1 (Int32.ofInt 0)) J1)))) : mm_s SL xs (d + 2) 25 [.ref 31] (hp p s q I J) Q := by
  refine e_X2_clear rfl ?_
  refine sp_aload_n 1 rfl rfl rfl ?_
  refine hq_getR 4 rfl rfl rfl rfl ?_
  refine sp_iconst 5 rfl rfl ?_
  refine sc_S 8 rfl rfl rfl rfl (Nat.le_refl _) (Nat.le_refl _) rfl ?_
  refine mm_s_mono _ _ _ _ _ _ ?_ k
  rintro r_ h_ ⟨I1, J1, rfl, rfl, k⟩
  refine sp_aload_n 9 rfl rfl rfl ?_
  refine sp_iconst 10 rfl rfl ?_
  refine hq_putI 13 rfl rfl rfl ?_
  exact st_vret rfl rfl (Nat.le_refl _) (Nat.le_refl _) k
def w_X2_heaviest_6 (SL : Nat) (xs : Nat → Int32) (d : Nat) (p s q : Nat) (Q : Option Value → mm_H → Prop) (v1 : Int32) (v2 : Int64) (v4 : Int32) (v5 : Int32) (I : Nat → Nat → Int32) (J : Nat → Nat → Int64) : Prop := mm_w SL xs (mm_s SL xs (d + 1)) mm_am kX2_heaviest 0 0 (some .int) Q 6 [some (.ref 31), some (.int v1), some (.long v2), none, some (.int v4), some (.int v5)] [] (hp p s q I J) 0 0
theorem sg_X2_heaviest {SL : Nat} {xs : Nat → Int32} {d : Nat} {p s q : Nat} {Q : Option Value → mm_H → Prop} {a0 : Int32} {a1 : Int64} {I : Nat → Nat → Int32} {J : Nat → Nat → Int64}  (k : w_X2_heaviest_6 SL xs d p s q Q a0 a1 (Int32.ofInt (-1)) (Int32.ofInt 0) I J) : mm_s SL xs (d + 2) 30 [.ref 31, .int a0, .long a1] (hp p s q I J) Q := by
  refine e_X2_heaviest rfl ?_
  refine sp_iconst 1 rfl rfl ?_
  refine sp_istore 3 rfl rfl rfl ?_
  refine sp_iconst 4 rfl rfl ?_
  refine sp_istore 6 rfl rfl rfl ?_
  exact k
theorem sg_X2_heaviest_6 {SL : Nat} {xs : Nat → Int32} {d : Nat} {p s q : Nat} {Q : Option Value → mm_H → Prop} {v1 : Int32} {v2 : Int64} {v4 : Int32} {v5 : Int32} {I : Nat → Nat → Int32} {J : Nat → Nat → Int64}  (k : ((v1 ≤ v5 → Q (some (.int v4)) (hp p s q I J)) ∧ (¬ (v1 ≤ v5) → (((Int32.ofInt 60) ≤ v5 → Q (some (.int v4)) (hp p s q I J)) ∧ (¬ ((Int32.ofInt 60) ≤ v5) → (((sx_X6_has v2 v5) = Int32.ofInt 0 → ((v4 = (Int32.ofInt (-1)) → w_X2_heaviest_6 SL xs d p s q Q v1 v2 v5 (v5 + Int32.ofInt 1) I J) ∧ (¬ (v4 = (Int32.ofInt (-1))) → (vp_in v5 60 ∧ (mm_s SL xs (d + 1) 29 [.ref 31, .int v4] (hp p s q I J) (fun r_ h_ => ∃ x1 I1 J1, r_ = some (.int x1) ∧ h_ = hp p s q I1 J1 ∧ (((I 32 ((v5).toNatClampNeg)) ≤ x1 → w_X2_heaviest_6 SL xs d p s q Q v1 v2 v4 (v5 + Int32.ofInt 1) I1 J1) ∧ (¬ ((I 32 ((v5).toNatClampNeg)) ≤ x1) → w_X2_heaviest_6 SL xs d p s q Q v1 v2 v5 (v5 + Int32.ofInt 1) I1 J1)))))))) ∧ (¬ ((sx_X6_has v2 v5) = Int32.ofInt 0) → w_X2_heaviest_6 SL xs d p s q Q v1 v2 v4 (v5 + Int32.ofInt 1) I J))))))) : w_X2_heaviest_6 SL xs d p s q Q v1 v2 v4 v5 I J := by
  unfold w_X2_heaviest_6
  refine sp_iload 8 rfl rfl rfl ?_
  refine sp_iload_n 9 rfl rfl rfl ?_
  refine sp_ic_ge 12 rfl rfl (fun q => ?_) (fun q => ?_)
  · have k := k.1 q
    refine sp_iload 62 rfl rfl rfl ?_
    exact st_iret rfl rfl (Nat.le_refl _) (Nat.le_refl _) k
  · have k := k.2 q
    refine sp_iload 14 rfl rfl rfl ?_
    refine sp_bipush 16 rfl rfl ?_
    refine sp_I (y := Int32.ofInt 60) rfl ?_
    refine sp_ic_ge 19 rfl rfl (fun q => ?_) (fun q => ?_)
    · have k := k.1 q
      refine sp_iload 62 rfl rfl rfl ?_
      exact st_iret rfl rfl (Nat.le_refl _) (Nat.le_refl _) k
    · have k := k.2 q
      refine sp_lload_n 20 rfl rfl rfl ?_
      refine sp_iload 22 rfl rfl rfl ?_
      refine sc_S 25 rfl rfl rfl rfl (Nat.le_refl _) (Nat.le_refl _) rfl ?_
      refine cx_X6_has ?_
      refine sp_if_ne 28 rfl rfl (fun q => ?_) (fun q => ?_)
      · have k := k.2 q
        refine sp_iinc 57 rfl rfl rfl rfl ?_
        refine sp_goto rfl ?_
        exact k
      · have k := k.1 q
        refine sp_iload 30 rfl rfl rfl ?_
        refine sp_iconst 31 rfl rfl ?_
        refine sp_ic_eq 34 rfl rfl (fun q => ?_) (fun q => ?_)
        · have k := k.1 q
          refine sp_iload 52 rfl rfl rfl ?_
          refine sp_istore 54 rfl rfl rfl ?_
          refine sp_iinc 57 rfl rfl rfl rfl ?_
          refine sp_goto rfl ?_
          exact k
        · have k := k.2 q
          refine sp_aload_n 35 rfl rfl rfl ?_
          refine hq_getR 38 rfl rfl rfl rfl ?_
          refine sp_iload 40 rfl rfl rfl ?_
          have n1_ := k.1
          have k := k.2
          refine hq_iald 41 rfl rfl n1_ rfl ?_
          refine sp_aload_n 42 rfl rfl rfl ?_
          refine sp_iload 44 rfl rfl rfl ?_
          refine sc_V 47 rfl rfl rfl rfl rfl (Nat.le_refl _) (Nat.le_refl _) rfl ?_
          refine mm_s_mono _ _ _ _ _ _ ?_ k
          rintro r_ h_ ⟨x1, I1, J1, rfl, rfl, k⟩
          refine sp_ic_le 50 rfl rfl (fun q => ?_) (fun q => ?_)
          · have k := k.1 q
            refine sp_iinc 57 rfl rfl rfl rfl ?_
            refine sp_goto rfl ?_
            exact k
          · have k := k.2 q
            refine sp_iload 52 rfl rfl rfl ?_
            refine sp_istore 54 rfl rfl rfl ?_
            refine sp_iinc 57 rfl rfl rfl rfl ?_
            refine sp_goto rfl ?_
            exact k
theorem sg_X2_partOf {SL : Nat} {xs : Nat → Int32} {d : Nat} {p s q : Nat} {Q : Option Value → mm_H → Prop} {a0 : Int32} {a1 : Int32} {a2 : Int32} {I : Nat → Nat → Int32} {J : Nat → Nat → Int64}  (k : (mm_s SL xs (d + 1) 46 [.long ((a0).toInt64), .long ((a1).toInt64)] (hp p s q I J) (fun r_ h_ => ∃ x1 I1 J1, r_ = some (.long x1) ∧ h_ = hp p s q I1 J1 ∧ (((Int32.ofInt 1) ≤ ((x1).toInt32) → ((a2 = Int32.ofInt 0 → (¬ ((x1).toInt32) = 0 ∧ Q (some (.int (a0 / ((x1).toInt32)))) (hp p s q I1 J1))) ∧ (¬ (a2 = Int32.ofInt 0) → (¬ ((x1).toInt32) = 0 ∧ Q (some (.int (a1 / ((x1).toInt32)))) (hp p s q I1 J1))))) ∧ (¬ ((Int32.ofInt 1) ≤ ((x1).toInt32)) → Q (some (.int (Int32.ofInt (-1)))) (hp p s q I1 J1)))))) : mm_s SL xs (d + 2) 32 [.int a0, .int a1, .int a2] (hp p s q I J) Q := by
  refine e_X2_partOf rfl ?_
  refine sp_iload_n 1 rfl rfl rfl ?_
  refine sp_i2l 2 rfl rfl ?_
  refine sp_iload_n 3 rfl rfl rfl ?_
  refine sp_i2l 4 rfl rfl ?_
  refine sc_S 7 rfl rfl rfl rfl (Nat.le_refl _) (Nat.le_refl _) rfl ?_
  refine mm_s_mono _ _ _ _ _ _ ?_ k
  rintro r_ h_ ⟨x1, I1, J1, rfl, rfl, k⟩
  refine sp_l2i 8 rfl rfl ?_
  refine sp_istore_n 9 rfl rfl rfl ?_
  refine sp_iload_n 10 rfl rfl rfl ?_
  refine sp_iconst 11 rfl rfl ?_
  refine sp_ic_ge 14 rfl rfl (fun q => ?_) (fun q => ?_)
  · have k := k.1 q
    refine sp_iload_n 17 rfl rfl rfl ?_
    refine sp_if_ne 20 rfl rfl (fun q => ?_) (fun q => ?_)
    · have k := k.2 q
      refine sp_iload_n 25 rfl rfl rfl ?_
      refine sp_iload_n 26 rfl rfl rfl ?_
      have n1_ := k.1
      have k := k.2
      refine sp_idiv 27 rfl n1_ rfl ?_
      exact st_iret rfl rfl (Nat.le_refl _) (Nat.le_refl _) k
    · have k := k.1 q
      refine sp_iload_n 21 rfl rfl rfl ?_
      refine sp_goto rfl ?_
      refine sp_iload_n 26 rfl rfl rfl ?_
      have n2_ := k.1
      have k := k.2
      refine sp_idiv 27 rfl n2_ rfl ?_
      exact st_iret rfl rfl (Nat.le_refl _) (Nat.le_refl _) k
  · have k := k.2 q
    refine sp_iconst 15 rfl rfl ?_
    exact st_iret rfl rfl (Nat.le_refl _) (Nat.le_refl _) k
theorem sg_X3_leastCommon {SL : Nat} {xs : Nat → Int32} {d : Nat} {p s q : Nat} {Q : Option Value → mm_H → Prop} {a0 : Int64} {a1 : Int32} {I : Nat → Nat → Int32} {J : Nat → Nat → Int64}  (k : (mm_s SL xs (d + 1) 46 [.long a0, .long ((a1).toInt64)] (hp p s q I J) (fun r_ h_ => ∃ x1 I1 J1, r_ = some (.long x1) ∧ h_ = hp p s q I1 J1 ∧ (((Int64.ofInt 1) ≤ x1 → (¬ x1 = 0 ∧ Q (some (.long ((a0 / x1) * ((a1).toInt64)))) (hp p s q I1 J1))) ∧ (¬ ((Int64.ofInt 1) ≤ x1) → Q (some (.long a0)) (hp p s q I1 J1)))))) : mm_s SL xs (d + 2) 37 [.long a0, .int a1] (hp p s q I J) Q := by
  refine e_X3_leastCommon rfl ?_
  refine sp_lload_n 1 rfl rfl rfl ?_
  refine sp_iload_n 2 rfl rfl rfl ?_
  refine sp_i2l 3 rfl rfl ?_
  refine sc_S 6 rfl rfl rfl rfl (Nat.le_refl _) (Nat.le_refl _) rfl ?_
  refine mm_s_mono _ _ _ _ _ _ ?_ k
  rintro r_ h_ ⟨x1, I1, J1, rfl, rfl, k⟩
  refine sp_lstore_n 7 rfl rfl rfl ?_
  refine sp_lload_n 8 rfl rfl rfl ?_
  refine sp_lconst 9 rfl rfl ?_
  refine sp_J (y := Int64.ofInt 1) rfl ?_
  refine sp_lcmp 10 rfl rfl ?_
  refine sp_if_ge 13 rfl rfl (fun q => ?_) (fun q => ?_)
  · have k := k.1 ((lg_cmp_ge _ _).mp q)
    refine sp_lload_n 18 rfl rfl rfl ?_
    refine sp_lload_n 19 rfl rfl rfl ?_
    have n1_ := k.1
    have k := k.2
    refine sp_ldiv 20 rfl n1_ rfl ?_
    refine sp_iload_n 21 rfl rfl rfl ?_
    refine sp_i2l 22 rfl rfl ?_
    refine sp_lmul 23 rfl rfl ?_
    exact st_lret rfl rfl (Nat.le_refl _) (Nat.le_refl _) k
  · have k := k.2 (fun z => q ((lg_cmp_ge _ _).mpr z))
    refine sp_lload_n 14 rfl rfl rfl ?_
    refine sp_goto rfl ?_
    exact st_lret rfl rfl (Nat.le_refl _) (Nat.le_refl _) k
def w_X4_neverLast_8 (SL : Nat) (xs : Nat → Int32) (d : Nat) (p s q : Nat) (Q : Option Value → mm_H → Prop) (v0 : Int32) (v1 : Int32) (v2 : Int64) (v4 : Int32) (I : Nat → Nat → Int32) (J : Nat → Nat → Int64) : Prop := mm_w SL xs (mm_s SL xs (d + 1)) mm_am kX4_neverLast 0 0 (some .long) Q 8 [some (.int v0), some (.int v1), some (.long v2), none, some (.int v4)] [] (hp p s q I J) 0 0
theorem sg_X4_neverLast {SL : Nat} {xs : Nat → Int32} {d : Nat} {p s q : Nat} {Q : Option Value → mm_H → Prop} {a0 : Int32} {a1 : Int32} {I : Nat → Nat → Int32} {J : Nat → Nat → Int64}  (k : w_X4_neverLast_8 SL xs d p s q Q a0 a1 (sx_X6_all a0) (Int32.ofInt 1) I J) : mm_s SL xs (d + 2) 47 [.int a0, .int a1] (hp p s q I J) Q := by
  refine e_X4_neverLast rfl ?_
  refine sp_iload_n 1 rfl rfl rfl ?_
  refine sc_S 4 rfl rfl rfl rfl (Nat.le_refl _) (Nat.le_refl _) rfl ?_
  refine cx_X6_all ?_
  refine sp_lstore_n 5 rfl rfl rfl ?_
  refine sp_iconst 6 rfl rfl ?_
  refine sp_istore 8 rfl rfl rfl ?_
  exact k
theorem sg_X4_neverLast_8 {SL : Nat} {xs : Nat → Int32} {d : Nat} {p s q : Nat} {Q : Option Value → mm_H → Prop} {v0 : Int32} {v1 : Int32} {v2 : Int64} {v4 : Int32} {I : Nat → Nat → Int32} {J : Nat → Nat → Int64}  (k : ((v1 < v4 → Q (some (.long v2)) (hp p s q I J)) ∧ (¬ (v1 < v4) → ((v2 = (Int64.ofInt 0) → Q (some (.long v2)) (hp p s q I J)) ∧ (¬ (v2 = (Int64.ofInt 0)) → (mm_s SL xs (d + 1) 40 [.int v0, .int v4, .int v0] (hp p s q I J) (fun r_ h_ => ∃ x1 I1 J1, r_ = some (.int x1) ∧ h_ = hp p s q I1 J1 ∧ w_X4_neverLast_8 SL xs d p s q Q v0 v1 (v2 &&& ((sx_X6_bit x1) ^^^ (Int64.ofInt (-1)))) (v4 + Int32.ofInt 1) I1 J1))))))) : w_X4_neverLast_8 SL xs d p s q Q v0 v1 v2 v4 I J := by
  unfold w_X4_neverLast_8
  refine sp_iload 10 rfl rfl rfl ?_
  refine sp_iload_n 11 rfl rfl rfl ?_
  refine sp_ic_gt 14 rfl rfl (fun q => ?_) (fun q => ?_)
  · have k := k.1 q
    refine sp_lload_n 44 rfl rfl rfl ?_
    exact st_lret rfl rfl (Nat.le_refl _) (Nat.le_refl _) k
  · have k := k.2 q
    refine sp_lload_n 15 rfl rfl rfl ?_
    refine sp_lconst 16 rfl rfl ?_
    refine sp_J (y := Int64.ofInt 0) rfl ?_
    refine sp_lcmp 17 rfl rfl ?_
    refine sp_if_eq 20 rfl rfl (fun q => ?_) (fun q => ?_)
    · have k := k.1 ((lg_cmp_eq _ _).mp q)
      refine sp_lload_n 44 rfl rfl rfl ?_
      exact st_lret rfl rfl (Nat.le_refl _) (Nat.le_refl _) k
    · have k := k.2 (fun z => q ((lg_cmp_eq _ _).mpr z))
      refine sp_lload_n 21 rfl rfl rfl ?_
      refine sp_iload_n 22 rfl rfl rfl ?_
      refine sp_iload 24 rfl rfl rfl ?_
      refine sp_iload_n 25 rfl rfl rfl ?_
      refine sc_S 28 rfl rfl rfl rfl (Nat.le_refl _) (Nat.le_refl _) rfl ?_
      refine mm_s_mono _ _ _ _ _ _ ?_ k
      rintro r_ h_ ⟨x1, I1, J1, rfl, rfl, k⟩
      refine sc_S 31 rfl rfl rfl rfl (Nat.le_refl _) (Nat.le_refl _) rfl ?_
      refine cx_X6_bit ?_
      refine sp_ldc2 34 rfl rfl ?_
      refine sp_lxor 35 rfl rfl ?_
      refine sp_land 36 rfl rfl ?_
      refine sp_lstore_n 37 rfl rfl rfl ?_
      refine sp_iinc 40 rfl rfl rfl rfl ?_
      refine sp_goto rfl ?_
      exact k
def w_X4_leastForAll_7 (SL : Nat) (xs : Nat → Int32) (d : Nat) (p s q : Nat) (Q : Option Value → mm_H → Prop) (v0 : Int32) (v1 : Int64) (v3 : Int32) (I : Nat → Nat → Int32) (J : Nat → Nat → Int64) : Prop := mm_w SL xs (mm_s SL xs (d + 1)) mm_am kX4_leastForAll 0 0 (some .int) Q 7 [some (.int v0), some (.long v1), none, some (.int v3)] [] (hp p s q I J) 0 0
theorem sg_X4_leastForAll {SL : Nat} {xs : Nat → Int32} {d : Nat} {p s q : Nat} {Q : Option Value → mm_H → Prop} {a0 : Int32} {I : Nat → Nat → Int32} {J : Nat → Nat → Int64}  (k : w_X4_leastForAll_7 SL xs d p s q Q a0 (sx_X6_all a0) (Int32.ofInt 1) I J) : mm_s SL xs (d + 2) 48 [.int a0] (hp p s q I J) Q := by
  refine e_X4_leastForAll rfl ?_
  refine sp_iload_n 1 rfl rfl rfl ?_
  refine sc_S 4 rfl rfl rfl rfl (Nat.le_refl _) (Nat.le_refl _) rfl ?_
  refine cx_X6_all ?_
  refine sp_lstore_n 5 rfl rfl rfl ?_
  refine sp_iconst 6 rfl rfl ?_
  refine sp_istore_n 7 rfl rfl rfl ?_
  exact k
theorem sg_X4_leastForAll_7 {SL : Nat} {xs : Nat → Int32} {d : Nat} {p s q : Nat} {Q : Option Value → mm_H → Prop} {v0 : Int32} {v1 : Int64} {v3 : Int32} {I : Nat → Nat → Int32} {J : Nat → Nat → Int64}  (k : (((Int32.ofInt 3000) < v3 → Q (some (.int (Int32.ofInt (-1)))) (hp p s q I J)) ∧ (¬ ((Int32.ofInt 3000) < v3) → (mm_s SL xs (d + 1) 40 [.int v0, .int v3, .int v0] (hp p s q I J) (fun r_ h_ => ∃ x1 I1 J1, r_ = some (.int x1) ∧ h_ = hp p s q I1 J1 ∧ (((v1 &&& ((sx_X6_bit x1) ^^^ (Int64.ofInt (-1)))) = (Int64.ofInt 0) → Q (some (.int v3)) (hp p s q I1 J1)) ∧ (¬ ((v1 &&& ((sx_X6_bit x1) ^^^ (Int64.ofInt (-1)))) = (Int64.ofInt 0)) → w_X4_leastForAll_7 SL xs d p s q Q v0 (v1 &&& ((sx_X6_bit x1) ^^^ (Int64.ofInt (-1)))) (v3 + Int32.ofInt 1) I1 J1))))))) : w_X4_leastForAll_7 SL xs d p s q Q v0 v1 v3 I J := by
  unfold w_X4_leastForAll_7
  refine sp_iload_n 8 rfl rfl rfl ?_
  refine sp_sipush 11 rfl rfl ?_
  refine sp_I (y := Int32.ofInt 3000) rfl ?_
  refine sp_ic_gt 14 rfl rfl (fun q => ?_) (fun q => ?_)
  · have k := k.1 q
    refine sp_iconst 45 rfl rfl ?_
    exact st_iret rfl rfl (Nat.le_refl _) (Nat.le_refl _) k
  · have k := k.2 q
    refine sp_lload_n 15 rfl rfl rfl ?_
    refine sp_iload_n 16 rfl rfl rfl ?_
    refine sp_iload_n 17 rfl rfl rfl ?_
    refine sp_iload_n 18 rfl rfl rfl ?_
    refine sc_S 21 rfl rfl rfl rfl (Nat.le_refl _) (Nat.le_refl _) rfl ?_
    refine mm_s_mono _ _ _ _ _ _ ?_ k
    rintro r_ h_ ⟨x1, I1, J1, rfl, rfl, k⟩
    refine sc_S 24 rfl rfl rfl rfl (Nat.le_refl _) (Nat.le_refl _) rfl ?_
    refine cx_X6_bit ?_
    refine sp_ldc2 27 rfl rfl ?_
    refine sp_lxor 28 rfl rfl ?_
    refine sp_land 29 rfl rfl ?_
    refine sp_lstore_n 30 rfl rfl rfl ?_
    refine sp_lload_n 31 rfl rfl rfl ?_
    refine sp_lconst 32 rfl rfl ?_
    refine sp_J (y := Int64.ofInt 0) rfl ?_
    refine sp_lcmp 33 rfl rfl ?_
    refine sp_if_ne 36 rfl rfl (fun q => ?_) (fun q => ?_)
    · have k := k.2 (fun z => q ((lg_cmp_eq _ _).mpr z))
      refine sp_iinc 41 rfl rfl rfl rfl ?_
      refine sp_goto rfl ?_
      exact k
    · have k := k.1 ((lg_cmp_eq _ _).mp q)
      refine sp_iload_n 37 rfl rfl rfl ?_
      exact st_iret rfl rfl (Nat.le_refl _) (Nat.le_refl _) k
def w_X5_countOf_6 (SL : Nat) (xs : Nat → Int32) (d : Nat) (p s q : Nat) (Q : Option Value → mm_H → Prop) (o : Nat) (v1 : Int32) (v2 : Int32) (v3 : Int32) (v4 : Int32) (v5 : Int32) (I : Nat → Nat → Int32) (J : Nat → Nat → Int64) : Prop := mm_w SL xs (mm_s SL xs (d + 1)) mm_am kX5_countOf 0 0 (some .int) Q 6 [some (.ref o), some (.int v1), some (.int v2), some (.int v3), some (.int v4), some (.int v5), none] [] (hp p s q I J) 0 0
theorem sg_X5_countOf {SL : Nat} {xs : Nat → Int32} {d : Nat} {p s q : Nat} {Q : Option Value → mm_H → Prop} {o : Nat} {a0 : Int32} {a1 : Int32} {a2 : Int32} {I : Nat → Nat → Int32} {J : Nat → Nat → Int64}  (k : w_X5_countOf_6 SL xs d p s q Q o a0 a1 a2 (Int32.ofInt 0) (Int32.ofInt 0) I J) : mm_s SL xs (d + 2) 60 [.ref o, .int a0, .int a1, .int a2] (hp p s q I J) Q := by
  refine e_X5_countOf rfl ?_
  refine sp_iconst 1 rfl rfl ?_
  refine sp_istore 3 rfl rfl rfl ?_
  refine sp_iconst 4 rfl rfl ?_
  refine sp_istore 6 rfl rfl rfl ?_
  exact k
theorem sg_X5_countOf_6 {SL : Nat} {xs : Nat → Int32} {d : Nat} {p s q : Nat} {Q : Option Value → mm_H → Prop} {o : Nat} {v1 : Int32} {v2 : Int32} {v3 : Int32} {v4 : Int32} {v5 : Int32} {I : Nat → Nat → Int32} {J : Nat → Nat → Int64} (h_o : isP o) (k : (((I o 17) ≤ v5 → (vp_in (Int32.ofInt 0) 40 ∧ Q (some (.int (sx_J9_max_7cf53 (Int32.ofInt 1) (sx_J9_min_7cf53 (Int32.ofInt 999) (I (o + 6) (((Int32.ofInt 0)).toNatClampNeg)))))) (hp p s q I J))) ∧ (¬ ((I o 17) ≤ v5) → (((Int32.ofInt 360) ≤ v5 → (vp_in (Int32.ofInt 0) 40 ∧ Q (some (.int (sx_J9_max_7cf53 (Int32.ofInt 1) (sx_J9_min_7cf53 (Int32.ofInt 999) (I (o + 6) (((Int32.ofInt 0)).toNatClampNeg)))))) (hp p s q I J))) ∧ (¬ ((Int32.ofInt 360) ≤ v5) → (vp_in v5 360 ∧ (((I (o + 5) ((v5).toNatClampNeg)) = (Int32.ofInt (-144)) → ((v4 ≤ Int32.ofInt 0 → w_X5_countOf_6 SL xs d p s q Q o v1 v2 v3 v4 (v5 + Int32.ofInt 1) I J) ∧ (¬ (v4 ≤ Int32.ofInt 0) → (vp_in (v4 - (Int32.ofInt 1)) 40 ∧ (((I (o + 6) (((v4 - (Int32.ofInt 1))).toNatClampNeg)) = Int32.ofInt 0 → w_X5_countOf_6 SL xs d p s q Q o v1 v2 v3 v4 (v5 + Int32.ofInt 1) (mm_u I (o + 6) (((v4 - (Int32.ofInt 1))).toNatClampNeg) (Int32.ofInt 1)) J) ∧ (¬ ((I (o + 6) (((v4 - (Int32.ofInt 1))).toNatClampNeg)) = Int32.ofInt 0) → w_X5_countOf_6 SL xs d p s q Q o v1 v2 v3 v4 (v5 + Int32.ofInt 1) (mm_u I (o + 6) (((v4 - (Int32.ofInt 1))).toNatClampNeg) (Int32.ofInt 0)) J)))))) ∧ (¬ ((I (o + 5) ((v5).toNatClampNeg)) = (Int32.ofInt (-144))) → (((sx_X5_isJoint (I (o + 5) ((v5).toNatClampNeg))) = Int32.ofInt 0 → (((Int32.ofInt 40) ≤ v4 → w_X5_countOf_6 SL xs d p s q Q o v1 v2 v3 v4 (v5 + Int32.ofInt 1) I J) ∧ (¬ ((Int32.ofInt 40) ≤ v4) → (vp_in v4 40 ∧ w_X5_countOf_6 SL xs d p s q Q o v1 v2 v3 (v4 + Int32.ofInt 1) (v5 + Int32.ofInt 1) (mm_u I (o + 6) ((v4).toNatClampNeg) (sy_X5_valueOf o (I (o + 5) ((v5).toNatClampNeg)) v1 v2 v3 I J)) J)))) ∧ (¬ ((sx_X5_isJoint (I (o + 5) ((v5).toNatClampNeg))) = Int32.ofInt 0) → ((v4 ≤ (Int32.ofInt 1) → w_X5_countOf_6 SL xs d p s q Q o v1 v2 v3 v4 (v5 + Int32.ofInt 1) I J) ∧ (¬ (v4 ≤ (Int32.ofInt 1)) → (vp_in ((v4 + Int32.ofInt (-1)) - (Int32.ofInt 1)) 40 ∧ (vp_in (v4 + Int32.ofInt (-1)) 40 ∧ (mm_s SL xs (d + 1) 63 [.int (-(I (o + 5) ((v5).toNatClampNeg))), .int (I (o + 6) ((((v4 + Int32.ofInt (-1)) - (Int32.ofInt 1))).toNatClampNeg)), .int (I (o + 6) (((v4 + Int32.ofInt (-1))).toNatClampNeg))] (hp p s q I J) (fun r_ h_ => ∃ x1 I1 J1, r_ = some (.int x1) ∧ h_ = hp p s q I1 J1 ∧ w_X5_countOf_6 SL xs d p s q Q o v1 v2 v3 (v4 + Int32.ofInt (-1)) (v5 + Int32.ofInt 1) (mm_u I1 (o + 6) ((((v4 + Int32.ofInt (-1)) - (Int32.ofInt 1))).toNatClampNeg) x1) J1)))))))))))))))) : w_X5_countOf_6 SL xs d p s q Q o v1 v2 v3 v4 v5 I J := by
  unfold w_X5_countOf_6
  refine sp_iload 8 rfl rfl rfl ?_
  refine sp_aload_n 9 rfl rfl rfl ?_
  refine hq_getI 12 rfl (kP0 h_o) rfl ?_
  refine sp_ic_ge 15 rfl rfl (fun q => ?_) (fun q => ?_)
  · have k := k.1 q
    refine sp_iconst 163 rfl rfl ?_
    refine sp_sipush 166 rfl rfl ?_
    refine sp_I (y := Int32.ofInt 999) rfl ?_
    refine sp_aload_n 167 rfl rfl rfl ?_
    refine hq_getR 170 rfl (kP0 h_o) (rP6 h_o) rfl ?_
    refine sp_iconst 171 rfl rfl ?_
    have n1_ := k.1
    have k := k.2
    refine hq_iald 172 rfl (kP6 h_o) n1_ rfl ?_
    refine sc_S 175 rfl rfl rfl rfl (Nat.le_refl _) (Nat.le_refl _) rfl ?_
    refine cx_J9_min_7cf53 ?_
    refine sc_S 178 rfl rfl rfl rfl (Nat.le_refl _) (Nat.le_refl _) rfl ?_
    refine cx_J9_max_7cf53 ?_
    exact st_iret rfl rfl (Nat.le_refl _) (Nat.le_refl _) k
  · have k := k.2 q
    refine sp_iload 17 rfl rfl rfl ?_
    refine sp_aload_n 18 rfl rfl rfl ?_
    refine hq_getR 21 rfl (kP0 h_o) (rP5 h_o) rfl ?_
    refine hq_alen 22 rfl (kP5 h_o) rfl rfl ?_
    refine sp_I (y := Int32.ofInt 360) rfl ?_
    refine sp_ic_ge 25 rfl rfl (fun q => ?_) (fun q => ?_)
    · have k := k.1 q
      refine sp_iconst 163 rfl rfl ?_
      refine sp_sipush 166 rfl rfl ?_
      refine sp_I (y := Int32.ofInt 999) rfl ?_
      refine sp_aload_n 167 rfl rfl rfl ?_
      refine hq_getR 170 rfl (kP0 h_o) (rP6 h_o) rfl ?_
      refine sp_iconst 171 rfl rfl ?_
      have n2_ := k.1
      have k := k.2
      refine hq_iald 172 rfl (kP6 h_o) n2_ rfl ?_
      refine sc_S 175 rfl rfl rfl rfl (Nat.le_refl _) (Nat.le_refl _) rfl ?_
      refine cx_J9_min_7cf53 ?_
      refine sc_S 178 rfl rfl rfl rfl (Nat.le_refl _) (Nat.le_refl _) rfl ?_
      refine cx_J9_max_7cf53 ?_
      exact st_iret rfl rfl (Nat.le_refl _) (Nat.le_refl _) k
    · have k := k.2 q
      refine sp_aload_n 26 rfl rfl rfl ?_
      refine hq_getR 29 rfl (kP0 h_o) (rP5 h_o) rfl ?_
      refine sp_iload 31 rfl rfl rfl ?_
      have n3_ := k.1
      have k := k.2
      refine hq_iald 32 rfl (kP5 h_o) n3_ rfl ?_
      refine sp_istore 34 rfl rfl rfl ?_
      refine sp_iload 36 rfl rfl rfl ?_
      refine sp_sipush 39 rfl rfl ?_
      refine sp_I (y := Int32.ofInt (-144)) rfl ?_
      refine sp_ic_ne 42 rfl rfl (fun q => ?_) (fun q => ?_)
      · have k := k.2 q
        refine sp_iload 78 rfl rfl rfl ?_
        refine sc_S 81 rfl rfl rfl rfl (Nat.le_refl _) (Nat.le_refl _) rfl ?_
        refine cx_X5_isJoint ?_
        refine sp_if_eq 84 rfl rfl (fun q => ?_) (fun q => ?_)
        · have k := k.1 q
          refine sp_iload 129 rfl rfl rfl ?_
          refine sp_aload_n 130 rfl rfl rfl ?_
          refine hq_getR 133 rfl (kP0 h_o) (rP6 h_o) rfl ?_
          refine hq_alen 134 rfl (kP6 h_o) rfl rfl ?_
          refine sp_I (y := Int32.ofInt 40) rfl ?_
          refine sp_ic_ge 137 rfl rfl (fun q => ?_) (fun q => ?_)
          · have k := k.1 q
            refine sp_iinc 159 rfl rfl rfl rfl ?_
            refine sp_goto rfl ?_
            refine st_wk (L1 := [some (.ref o), some (.int v1), some (.int v2), some (.int v3), some (.int v4), some (.int (v5 + Int32.ofInt 1)), none]) ⟨.inr rfl, .inr rfl, .inr rfl, .inr rfl, .inr rfl, .inr rfl, .inl rfl, trivial⟩ ?_
            exact k
          · have k := k.2 q
            refine sp_aload_n 138 rfl rfl rfl ?_
            refine hq_getR 141 rfl (kP0 h_o) (rP6 h_o) rfl ?_
            refine sp_iload 143 rfl rfl rfl ?_
            refine sp_aload_n 144 rfl rfl rfl ?_
            refine sp_iload 146 rfl rfl rfl ?_
            refine sp_iload_n 147 rfl rfl rfl ?_
            refine sp_iload_n 148 rfl rfl rfl ?_
            refine sp_iload_n 149 rfl rfl rfl ?_
            refine sc_V 152 rfl rfl (kP0 h_o) rfl rfl (Nat.le_refl _) (Nat.le_refl _) rfl ?_
            refine cy_X5_valueOf h_o ?_
            have n4_ := k.1
            have k := k.2
            refine hq_iast 153 rfl (kP6 h_o) n4_ rfl ?_
            refine sp_iinc 156 rfl rfl rfl rfl ?_
            refine sp_iinc 159 rfl rfl rfl rfl ?_
            refine sp_goto rfl ?_
            refine st_wk (L1 := [some (.ref o), some (.int v1), some (.int v2), some (.int v3), some (.int (v4 + Int32.ofInt 1)), some (.int (v5 + Int32.ofInt 1)), none]) ⟨.inr rfl, .inr rfl, .inr rfl, .inr rfl, .inr rfl, .inr rfl, .inl rfl, trivial⟩ ?_
            exact k
        · have k := k.2 q
          refine sp_iload 86 rfl rfl rfl ?_
          refine sp_iconst 87 rfl rfl ?_
          refine sp_ic_le 90 rfl rfl (fun q => ?_) (fun q => ?_)
          · have k := k.1 q
            refine sp_iinc 159 rfl rfl rfl rfl ?_
            refine sp_goto rfl ?_
            refine st_wk (L1 := [some (.ref o), some (.int v1), some (.int v2), some (.int v3), some (.int v4), some (.int (v5 + Int32.ofInt 1)), none]) ⟨.inr rfl, .inr rfl, .inr rfl, .inr rfl, .inr rfl, .inr rfl, .inl rfl, trivial⟩ ?_
            exact k
          · have k := k.2 q
            refine sp_iinc 93 rfl rfl rfl rfl ?_
            refine sp_aload_n 94 rfl rfl rfl ?_
            refine hq_getR 97 rfl (kP0 h_o) (rP6 h_o) rfl ?_
            refine sp_iload 99 rfl rfl rfl ?_
            refine sp_iconst 100 rfl rfl ?_
            refine sp_isub 101 rfl rfl ?_
            refine sp_iload 103 rfl rfl rfl ?_
            refine sp_ineg 104 rfl rfl ?_
            refine sp_aload_n 105 rfl rfl rfl ?_
            refine hq_getR 108 rfl (kP0 h_o) (rP6 h_o) rfl ?_
            refine sp_iload 110 rfl rfl rfl ?_
            refine sp_iconst 111 rfl rfl ?_
            refine sp_isub 112 rfl rfl ?_
            have n5_ := k.1
            have k := k.2
            refine hq_iald 113 rfl (kP6 h_o) n5_ rfl ?_
            refine sp_aload_n 114 rfl rfl rfl ?_
            refine hq_getR 117 rfl (kP0 h_o) (rP6 h_o) rfl ?_
            refine sp_iload 119 rfl rfl rfl ?_
            have n6_ := k.1
            have k := k.2
            refine hq_iald 120 rfl (kP6 h_o) n6_ rfl ?_
            refine sc_S 123 rfl rfl rfl rfl (Nat.le_refl _) (Nat.le_refl _) rfl ?_
            refine mm_s_mono _ _ _ _ _ _ ?_ k
            rintro r_ h_ ⟨x1, I1, J1, rfl, rfl, k⟩
            refine hq_iast 124 rfl (kP6 h_o) n5_ rfl ?_
            refine sp_goto rfl ?_
            refine sp_iinc 159 rfl rfl rfl rfl ?_
            refine sp_goto rfl ?_
            refine st_wk (L1 := [some (.ref o), some (.int v1), some (.int v2), some (.int v3), some (.int (v4 + Int32.ofInt (-1))), some (.int (v5 + Int32.ofInt 1)), none]) ⟨.inr rfl, .inr rfl, .inr rfl, .inr rfl, .inr rfl, .inr rfl, .inl rfl, trivial⟩ ?_
            exact k
      · have k := k.1 q
        refine sp_iload 44 rfl rfl rfl ?_
        refine sp_if_le 47 rfl rfl (fun q => ?_) (fun q => ?_)
        · have k := k.1 q
          refine sp_iinc 159 rfl rfl rfl rfl ?_
          refine sp_goto rfl ?_
          refine st_wk (L1 := [some (.ref o), some (.int v1), some (.int v2), some (.int v3), some (.int v4), some (.int (v5 + Int32.ofInt 1)), none]) ⟨.inr rfl, .inr rfl, .inr rfl, .inr rfl, .inr rfl, .inr rfl, .inl rfl, trivial⟩ ?_
          exact k
        · have k := k.2 q
          refine sp_aload_n 48 rfl rfl rfl ?_
          refine hq_getR 51 rfl (kP0 h_o) (rP6 h_o) rfl ?_
          refine sp_iload 53 rfl rfl rfl ?_
          refine sp_iconst 54 rfl rfl ?_
          refine sp_isub 55 rfl rfl ?_
          refine sp_aload_n 56 rfl rfl rfl ?_
          refine hq_getR 59 rfl (kP0 h_o) (rP6 h_o) rfl ?_
          refine sp_iload 61 rfl rfl rfl ?_
          refine sp_iconst 62 rfl rfl ?_
          refine sp_isub 63 rfl rfl ?_
          have n7_ := k.1
          have k := k.2
          refine hq_iald 64 rfl (kP6 h_o) n7_ rfl ?_
          refine sp_if_ne 67 rfl rfl (fun q => ?_) (fun q => ?_)
          · have k := k.2 q
            refine sp_iconst 72 rfl rfl ?_
            refine hq_iast 73 rfl (kP6 h_o) n7_ rfl ?_
            refine sp_goto rfl ?_
            refine sp_iinc 159 rfl rfl rfl rfl ?_
            refine sp_goto rfl ?_
            refine st_wk (L1 := [some (.ref o), some (.int v1), some (.int v2), some (.int v3), some (.int v4), some (.int (v5 + Int32.ofInt 1)), none]) ⟨.inr rfl, .inr rfl, .inr rfl, .inr rfl, .inr rfl, .inr rfl, .inl rfl, trivial⟩ ?_
            exact k
          · have k := k.1 q
            refine sp_iconst 68 rfl rfl ?_
            refine sp_goto rfl ?_
            refine hq_iast 73 rfl (kP6 h_o) n7_ rfl ?_
            refine sp_goto rfl ?_
            refine sp_iinc 159 rfl rfl rfl rfl ?_
            refine sp_goto rfl ?_
            refine st_wk (L1 := [some (.ref o), some (.int v1), some (.int v2), some (.int v3), some (.int v4), some (.int (v5 + Int32.ofInt 1)), none]) ⟨.inr rfl, .inr rfl, .inr rfl, .inr rfl, .inr rfl, .inr rfl, .inl rfl, trivial⟩ ?_
            exact k
theorem sg_X7_isNumber {SL : Nat} {xs : Nat → Int32} {d : Nat} {p s q : Nat} {Q : Option Value → mm_H → Prop} {a0 : Int32} {a1 : Int32} {I : Nat → Nat → Int32} {J : Nat → Nat → Int64}  (k : (((I 4 2) = (Int32.ofInt 2) → (((I 4 4) < a0 → (mm_s SL xs (d + 1) 74 [.ref 3, .int (Int32.ofInt 4)] (hp p s q I J) (fun r_ h_ => ∃ x1 I1 J1, r_ = some (.int x1) ∧ h_ = hp p s q I1 J1 ∧ ((x1 = Int32.ofInt 0 → Q (some (.int (Int32.ofInt 0))) (hp p s q I1 J1)) ∧ (¬ (x1 = Int32.ofInt 0) → Q (some (.int (Int32.ofInt 1))) (hp p s q I1 J1)))))) ∧ (¬ ((I 4 4) < a0) → (((I 4 4) ≤ a1 → Q (some (.int (Int32.ofInt 1))) (hp p s q I J)) ∧ (¬ ((I 4 4) ≤ a1) → (mm_s SL xs (d + 1) 74 [.ref 3, .int (Int32.ofInt 4)] (hp p s q I J) (fun r_ h_ => ∃ x2 I2 J2, r_ = some (.int x2) ∧ h_ = hp p s q I2 J2 ∧ ((x2 = Int32.ofInt 0 → Q (some (.int (Int32.ofInt 0))) (hp p s q I2 J2)) ∧ (¬ (x2 = Int32.ofInt 0) → Q (some (.int (Int32.ofInt 1))) (hp p s q I2 J2)))))))))) ∧ (¬ ((I 4 2) = (Int32.ofInt 2)) → (mm_s SL xs (d + 1) 74 [.ref 3, .int (Int32.ofInt 2)] (hp p s q I J) (fun r_ h_ => ∃ x3 I3 J3, r_ = some (.int x3) ∧ h_ = hp p s q I3 J3 ∧ ((x3 = 0 ∨ x3 = 1) ∧ Q (some (.int x3)) (hp p s q I3 J3))))))) : mm_s SL xs (d + 2) 78 [.ref 3, .int a0, .int a1] (hp p s q I J) Q := by
  refine e_X7_isNumber rfl ?_
  refine sp_aload_n 1 rfl rfl rfl ?_
  refine hq_getR 4 rfl rfl rfl rfl ?_
  refine hq_getI 7 rfl rfl rfl ?_
  refine sp_iconst 8 rfl rfl ?_
  refine sp_ic_eq 11 rfl rfl (fun q => ?_) (fun q => ?_)
  · have k := k.1 q
    refine sp_aload_n 18 rfl rfl rfl ?_
    refine hq_getR 21 rfl rfl rfl rfl ?_
    refine hq_getI 24 rfl rfl rfl ?_
    refine sp_iload_n 25 rfl rfl rfl ?_
    refine sp_ic_lt 28 rfl rfl (fun q => ?_) (fun q => ?_)
    · have k := k.1 q
      refine sp_aload_n 40 rfl rfl rfl ?_
      refine sp_iconst 41 rfl rfl ?_
      refine sc_V 44 rfl rfl rfl rfl rfl (Nat.le_refl _) (Nat.le_refl _) rfl ?_
      refine mm_s_mono _ _ _ _ _ _ ?_ k
      rintro r_ h_ ⟨x1, I1, J1, rfl, rfl, k⟩
      refine sp_if_eq 47 rfl rfl (fun q => ?_) (fun q => ?_)
      · have k := k.1 q
        refine sp_iconst 52 rfl rfl ?_
        exact st_zret rfl rfl (by decide) (Nat.le_refl _) (Nat.le_refl _) k
      · have k := k.2 q
        refine sp_iconst 48 rfl rfl ?_
        refine sp_goto rfl ?_
        exact st_zret rfl rfl (by decide) (Nat.le_refl _) (Nat.le_refl _) k
    · have k := k.2 q
      refine sp_aload_n 29 rfl rfl rfl ?_
      refine hq_getR 32 rfl rfl rfl rfl ?_
      refine hq_getI 35 rfl rfl rfl ?_
      refine sp_iload_n 36 rfl rfl rfl ?_
      refine sp_ic_le 39 rfl rfl (fun q => ?_) (fun q => ?_)
      · have k := k.1 q
        refine sp_iconst 48 rfl rfl ?_
        refine sp_goto rfl ?_
        exact st_zret rfl rfl (by decide) (Nat.le_refl _) (Nat.le_refl _) k
      · have k := k.2 q
        refine sp_aload_n 40 rfl rfl rfl ?_
        refine sp_iconst 41 rfl rfl ?_
        refine sc_V 44 rfl rfl rfl rfl rfl (Nat.le_refl _) (Nat.le_refl _) rfl ?_
        refine mm_s_mono _ _ _ _ _ _ ?_ k
        rintro r_ h_ ⟨x2, I2, J2, rfl, rfl, k⟩
        refine sp_if_eq 47 rfl rfl (fun q => ?_) (fun q => ?_)
        · have k := k.1 q
          refine sp_iconst 52 rfl rfl ?_
          exact st_zret rfl rfl (by decide) (Nat.le_refl _) (Nat.le_refl _) k
        · have k := k.2 q
          refine sp_iconst 48 rfl rfl ?_
          refine sp_goto rfl ?_
          exact st_zret rfl rfl (by decide) (Nat.le_refl _) (Nat.le_refl _) k
  · have k := k.2 q
    refine sp_aload_n 12 rfl rfl rfl ?_
    refine sp_iconst 13 rfl rfl ?_
    refine sc_V 16 rfl rfl rfl rfl rfl (Nat.le_refl _) (Nat.le_refl _) rfl ?_
    refine mm_s_mono _ _ _ _ _ _ ?_ k
    rintro r_ h_ ⟨x3, I3, J3, rfl, rfl, k⟩
    exact st_zret rfl rfl k.1 (Nat.le_refl _) (Nat.le_refl _) k.2
def w_X8_tell_50 (SL : Nat) (xs : Nat → Int32) (d : Nat) (p s q : Nat) (Q : Option Value → mm_H → Prop) (v1 : Int32) (v2 : Int32) (v3 : Int32) (v4 : Int32) (v5 : Int32) (v6 : Int32) (I : Nat → Nat → Int32) (J : Nat → Nat → Int64) : Prop := mm_w SL xs (mm_s SL xs (d + 1)) mm_am kX8_tell 0 0 (some .int) Q 50 [some (.ref 33), some (.int v1), some (.int v2), some (.int v3), some (.int v4), some (.int v5), some (.int v6)] [] (hp p s q I J) 0 0
def w_X8_tell_76 (SL : Nat) (xs : Nat → Int32) (d : Nat) (p s q : Nat) (Q : Option Value → mm_H → Prop) (v1 : Int32) (v2 : Int32) (v3 : Int32) (v4 : Int32) (v5 : Int32) (v6 : Int32) (I : Nat → Nat → Int32) (J : Nat → Nat → Int64) : Prop := mm_w SL xs (mm_s SL xs (d + 1)) mm_am kX8_tell 0 0 (some .int) Q 76 [some (.ref 33), some (.int v1), some (.int v2), some (.int v3), some (.int v4), some (.int v5), some (.int v6)] [] (hp p s q I J) 0 0
theorem sg_X8_tell {SL : Nat} {xs : Nat → Int32} {d : Nat} {p s q : Nat} {Q : Option Value → mm_H → Prop} {a0 : Int32} {a1 : Int32} {a2 : Int32} {a3 : Int32} {I : Nat → Nat → Int32} {J : Nat → Nat → Int64}  (k : (((I 33 0) < Int32.ofInt 0 → Q (some (.int (Int32.ofInt (-1)))) (hp p s q I J)) ∧ (¬ ((I 33 0) < Int32.ofInt 0) → (((I 33 0) < (Int32.ofInt 40) → (vp_in (I 33 0) 40 ∧ w_X8_tell_50 SL xs d p s q Q a0 a1 a2 a3 ((I 33 0) * (Int32.ofInt 4)) (Int32.ofInt 0) (mm_u (mm_u I 34 (((I 33 0)).toNatClampNeg) a3) 35 (((I 33 0)).toNatClampNeg) (Int32.ofInt (-1))) J)) ∧ (¬ ((I 33 0) < (Int32.ofInt 40)) → Q (some (.int (Int32.ofInt (-1)))) (hp p s q I J)))))) : mm_s SL xs (d + 2) 93 [.ref 33, .int a0, .int a1, .int a2, .int a3] (hp p s q I J) Q := by
  refine e_X8_tell rfl ?_
  refine sp_aload_n 1 rfl rfl rfl ?_
  refine hq_getI 4 rfl rfl rfl ?_
  refine sp_if_lt 7 rfl rfl (fun q => ?_) (fun q => ?_)
  · have k := k.1 q
    refine sp_iconst 17 rfl rfl ?_
    exact st_iret rfl rfl (Nat.le_refl _) (Nat.le_refl _) k
  · have k := k.2 q
    refine sp_aload_n 8 rfl rfl rfl ?_
    refine hq_getI 11 rfl rfl rfl ?_
    refine sp_bipush 13 rfl rfl ?_
    refine sp_I (y := Int32.ofInt 40) rfl ?_
    refine sp_ic_lt 16 rfl rfl (fun q => ?_) (fun q => ?_)
    · have k := k.1 q
      refine sp_aload_n 19 rfl rfl rfl ?_
      refine hq_getR 22 rfl rfl rfl rfl ?_
      refine sp_aload_n 23 rfl rfl rfl ?_
      refine hq_getI 26 rfl rfl rfl ?_
      refine sp_iload 28 rfl rfl rfl ?_
      have n1_ := k.1
      have k := k.2
      refine hq_iast 29 rfl rfl n1_ rfl ?_
      refine sp_aload_n 30 rfl rfl rfl ?_
      refine hq_getR 33 rfl rfl rfl rfl ?_
      refine sp_aload_n 34 rfl rfl rfl ?_
      refine hq_getI 37 rfl rfl rfl ?_
      refine sp_I (y := (I 33 0)) (by simp [mm_u]) ?_
      refine sp_iconst 38 rfl rfl ?_
      refine hq_iast 39 rfl rfl n1_ rfl ?_
      refine sp_aload_n 40 rfl rfl rfl ?_
      refine hq_getI 43 rfl rfl rfl ?_
      refine sp_I (y := (I 33 0)) (by simp [mm_u]) ?_
      refine sp_iconst 44 rfl rfl ?_
      refine sp_imul 45 rfl rfl ?_
      refine sp_istore 47 rfl rfl rfl ?_
      refine sp_iconst 48 rfl rfl ?_
      refine sp_istore 50 rfl rfl rfl ?_
      exact k
    · have k := k.2 q
      refine sp_iconst 17 rfl rfl ?_
      exact st_iret rfl rfl (Nat.le_refl _) (Nat.le_refl _) k
theorem sg_X8_tell_50 {SL : Nat} {xs : Nat → Int32} {d : Nat} {p s q : Nat} {Q : Option Value → mm_H → Prop} {v1 : Int32} {v2 : Int32} {v3 : Int32} {v4 : Int32} {v5 : Int32} {v6 : Int32} {I : Nat → Nat → Int32} {J : Nat → Nat → Int64}  (k : (((Int32.ofInt 4) ≤ v6 → w_X8_tell_76 SL xs d p s q Q v1 v2 v3 v4 v5 (Int32.ofInt 1) I J) ∧ (¬ ((Int32.ofInt 4) ≤ v6) → (vp_in (v5 + v6) 160 ∧ w_X8_tell_50 SL xs d p s q Q v1 v2 v3 v4 v5 (v6 + Int32.ofInt 1) I (mm_u J 36 (((v5 + v6)).toNatClampNeg) (Int64.ofInt 0)))))) : w_X8_tell_50 SL xs d p s q Q v1 v2 v3 v4 v5 v6 I J := by
  unfold w_X8_tell_50
  refine sp_iload 52 rfl rfl rfl ?_
  refine sp_iconst 53 rfl rfl ?_
  refine sp_ic_ge 56 rfl rfl (fun q => ?_) (fun q => ?_)
  · have k := k.1 q
    refine sp_iconst 74 rfl rfl ?_
    refine sp_istore 76 rfl rfl rfl ?_
    exact k
  · have k := k.2 q
    refine sp_aload_n 57 rfl rfl rfl ?_
    refine hq_getR 60 rfl rfl rfl rfl ?_
    refine sp_iload 62 rfl rfl rfl ?_
    refine sp_iload 64 rfl rfl rfl ?_
    refine sp_iadd 65 rfl rfl ?_
    refine sp_lconst 66 rfl rfl ?_
    refine sp_J (y := Int64.ofInt 0) rfl ?_
    have n2_ := k.1
    have k := k.2
    refine hq_last 67 rfl rfl n2_ rfl ?_
    refine sp_iinc 70 rfl rfl rfl rfl ?_
    refine sp_goto rfl ?_
    exact k
theorem sg_X8_tell_76 {SL : Nat} {xs : Nat → Int32} {d : Nat} {p s q : Nat} {Q : Option Value → mm_H → Prop} {v1 : Int32} {v2 : Int32} {v3 : Int32} {v4 : Int32} {v5 : Int32} {v6 : Int32} {I : Nat → Nat → Int32} {J : Nat → Nat → Int64}  (k : (((Int32.ofInt 200) < v6 → Q (some (.int (((I 33 0) + (Int32.ofInt 1)) - (Int32.ofInt 1)))) (hp p s q (mm_u I 33 0 ((I 33 0) + (Int32.ofInt 1))) J)) ∧ (¬ ((Int32.ofInt 200) < v6) → (mm_s SL xs (d + 1) 40 [.int v1, .int v6, .int v2] (hp p s q I J) (fun r_ h_ => ∃ x1 I1 J1, r_ = some (.int x1) ∧ h_ = hp p s q I1 J1 ∧ ((x1 = v3 → (vp_in (v5 + (v6 / (Int32.ofInt 64))) 160 ∧ w_X8_tell_76 SL xs d p s q Q v1 v2 v3 v4 v5 (v6 + Int32.ofInt 1) I1 (mm_u J1 36 (((v5 + (v6 / (Int32.ofInt 64)))).toNatClampNeg) ((J1 36 (((v5 + (v6 / (Int32.ofInt 64)))).toNatClampNeg)) ||| ((Int64.ofInt 1) <<< (((v6 - v6 / (Int32.ofInt 64) * (Int32.ofInt 64))).toInt64 &&& 63)))))) ∧ (¬ (x1 = v3) → w_X8_tell_76 SL xs d p s q Q v1 v2 v3 v4 v5 (v6 + Int32.ofInt 1) I1 J1))))))) : w_X8_tell_76 SL xs d p s q Q v1 v2 v3 v4 v5 v6 I J := by
  unfold w_X8_tell_76
  refine sp_iload 78 rfl rfl rfl ?_
  refine sp_sipush 81 rfl rfl ?_
  refine sp_I (y := Int32.ofInt 200) rfl ?_
  refine sp_ic_gt 84 rfl rfl (fun q => ?_) (fun q => ?_)
  · have k := k.1 q
    refine sp_aload_n 125 rfl rfl rfl ?_
    refine sp_dup 126 rfl rfl rfl ?_
    refine hq_getI 129 rfl rfl rfl ?_
    refine sp_iconst 130 rfl rfl ?_
    refine sp_iadd 131 rfl rfl ?_
    refine hq_putI 134 rfl rfl rfl ?_
    refine sp_aload_n 135 rfl rfl rfl ?_
    refine hq_getI 138 rfl rfl rfl ?_
    refine sp_I (y := ((I 33 0) + (Int32.ofInt 1))) (by simp [mm_u]) ?_
    refine sp_iconst 139 rfl rfl ?_
    refine sp_isub 140 rfl rfl ?_
    exact st_iret rfl rfl (Nat.le_refl _) (Nat.le_refl _) k
  · have k := k.2 q
    refine sp_iload_n 85 rfl rfl rfl ?_
    refine sp_iload 87 rfl rfl rfl ?_
    refine sp_iload_n 88 rfl rfl rfl ?_
    refine sc_S 91 rfl rfl rfl rfl (Nat.le_refl _) (Nat.le_refl _) rfl ?_
    refine mm_s_mono _ _ _ _ _ _ ?_ k
    rintro r_ h_ ⟨x1, I1, J1, rfl, rfl, k⟩
    refine sp_iload_n 92 rfl rfl rfl ?_
    refine sp_ic_ne 95 rfl rfl (fun q => ?_) (fun q => ?_)
    · have k := k.2 q
      refine sp_iinc 121 rfl rfl rfl rfl ?_
      refine sp_goto rfl ?_
      exact k
    · have k := k.1 q
      refine sp_aload_n 96 rfl rfl rfl ?_
      refine hq_getR 99 rfl rfl rfl rfl ?_
      refine sp_iload 101 rfl rfl rfl ?_
      refine sp_iload 103 rfl rfl rfl ?_
      refine sp_bipush 105 rfl rfl ?_
      refine sp_I (y := Int32.ofInt 64) rfl ?_
      refine sp_idiv 106 rfl (by decide) rfl ?_
      refine sp_iadd 107 rfl rfl ?_
      refine sp_dup2 108 rfl rfl rfl rfl ?_
      have n3_ := k.1
      have k := k.2
      refine hq_lald 109 rfl rfl n3_ rfl ?_
      refine sp_lconst 110 rfl rfl ?_
      refine sp_J (y := Int64.ofInt 1) rfl ?_
      refine sp_iload 112 rfl rfl rfl ?_
      refine sp_bipush 114 rfl rfl ?_
      refine sp_I (y := Int32.ofInt 64) rfl ?_
      refine sp_irem 115 rfl (by decide) rfl ?_
      refine sp_lshl 116 rfl rfl ?_
      refine sp_lor 117 rfl rfl ?_
      refine hq_last 118 rfl rfl n3_ rfl ?_
      refine sp_iinc 121 rfl rfl rfl rfl ?_
      refine sp_goto rfl ?_
      exact k
def w_X8_fitCount_4 (SL : Nat) (xs : Nat → Int32) (d : Nat) (p s q : Nat) (Q : Option Value → mm_H → Prop) (v1 : Int32) (v2 : Int32) (I : Nat → Nat → Int32) (J : Nat → Nat → Int64) : Prop := mm_w SL xs (mm_s SL xs (d + 1)) mm_am kX8_fitCount 0 0 (some .int) Q 4 [some (.ref 33), some (.int v1), some (.int v2)] [] (hp p s q I J) 0 0
theorem sg_X8_fitCount {SL : Nat} {xs : Nat → Int32} {d : Nat} {p s q : Nat} {Q : Option Value → mm_H → Prop}  {I : Nat → Nat → Int32} {J : Nat → Nat → Int64}  (k : w_X8_fitCount_4 SL xs d p s q Q (Int32.ofInt 0) (Int32.ofInt 1) I J) : mm_s SL xs (d + 2) 97 [.ref 33] (hp p s q I J) Q := by
  refine e_X8_fitCount rfl ?_
  refine sp_iconst 1 rfl rfl ?_
  refine sp_istore_n 2 rfl rfl rfl ?_
  refine sp_iconst 3 rfl rfl ?_
  refine sp_istore_n 4 rfl rfl rfl ?_
  exact k
theorem sg_X8_fitCount_4 {SL : Nat} {xs : Nat → Int32} {d : Nat} {p s q : Nat} {Q : Option Value → mm_H → Prop} {v1 : Int32} {v2 : Int32} {I : Nat → Nat → Int32} {J : Nat → Nat → Int64}  (k : (((Int32.ofInt 200) < v2 → Q (some (.int v1)) (hp p s q I J)) ∧ (¬ ((Int32.ofInt 200) < v2) → (mm_s SL xs (d + 1) 96 [.ref 33, .int v2] (hp p s q I J) (fun r_ h_ => ∃ x1 I1 J1, r_ = some (.int x1) ∧ h_ = hp p s q I1 J1 ∧ ((x1 = Int32.ofInt 0 → w_X8_fitCount_4 SL xs d p s q Q v1 (v2 + Int32.ofInt 1) I1 J1) ∧ (¬ (x1 = Int32.ofInt 0) → w_X8_fitCount_4 SL xs d p s q Q (v1 + Int32.ofInt 1) (v2 + Int32.ofInt 1) I1 J1))))))) : w_X8_fitCount_4 SL xs d p s q Q v1 v2 I J := by
  unfold w_X8_fitCount_4
  refine sp_iload_n 5 rfl rfl rfl ?_
  refine sp_sipush 8 rfl rfl ?_
  refine sp_I (y := Int32.ofInt 200) rfl ?_
  refine sp_ic_gt 11 rfl rfl (fun q => ?_) (fun q => ?_)
  · have k := k.1 q
    refine sp_iload_n 29 rfl rfl rfl ?_
    exact st_iret rfl rfl (Nat.le_refl _) (Nat.le_refl _) k
  · have k := k.2 q
    refine sp_aload_n 12 rfl rfl rfl ?_
    refine sp_iload_n 13 rfl rfl rfl ?_
    refine sc_V 16 rfl rfl rfl rfl rfl (Nat.le_refl _) (Nat.le_refl _) rfl ?_
    refine mm_s_mono _ _ _ _ _ _ ?_ k
    rintro r_ h_ ⟨x1, I1, J1, rfl, rfl, k⟩
    refine sp_if_eq 19 rfl rfl (fun q => ?_) (fun q => ?_)
    · have k := k.1 q
      refine sp_iinc 25 rfl rfl rfl rfl ?_
      refine sp_goto rfl ?_
      exact k
    · have k := k.2 q
      refine sp_iinc 22 rfl rfl rfl rfl ?_
      refine sp_iinc 25 rfl rfl rfl rfl ?_
      refine sp_goto rfl ?_
      exact k
def w_X8_leastFit_2 (SL : Nat) (xs : Nat → Int32) (d : Nat) (p s q : Nat) (Q : Option Value → mm_H → Prop) (v1 : Int32) (I : Nat → Nat → Int32) (J : Nat → Nat → Int64) : Prop := mm_w SL xs (mm_s SL xs (d + 1)) mm_am kX8_leastFit 0 0 (some .int) Q 2 [some (.ref 33), some (.int v1)] [] (hp p s q I J) 0 0
theorem sg_X8_leastFit {SL : Nat} {xs : Nat → Int32} {d : Nat} {p s q : Nat} {Q : Option Value → mm_H → Prop}  {I : Nat → Nat → Int32} {J : Nat → Nat → Int64}  (k : w_X8_leastFit_2 SL xs d p s q Q (Int32.ofInt 1) I J) : mm_s SL xs (d + 2) 98 [.ref 33] (hp p s q I J) Q := by
  refine e_X8_leastFit rfl ?_
  refine sp_iconst 1 rfl rfl ?_
  refine sp_istore_n 2 rfl rfl rfl ?_
  exact k
theorem sg_X8_leastFit_2 {SL : Nat} {xs : Nat → Int32} {d : Nat} {p s q : Nat} {Q : Option Value → mm_H → Prop} {v1 : Int32} {I : Nat → Nat → Int32} {J : Nat → Nat → Int64}  (k : (((Int32.ofInt 200) < v1 → Q (some (.int (Int32.ofInt (-1)))) (hp p s q I J)) ∧ (¬ ((Int32.ofInt 200) < v1) → (mm_s SL xs (d + 1) 96 [.ref 33, .int v1] (hp p s q I J) (fun r_ h_ => ∃ x1 I1 J1, r_ = some (.int x1) ∧ h_ = hp p s q I1 J1 ∧ ((x1 = Int32.ofInt 0 → w_X8_leastFit_2 SL xs d p s q Q (v1 + Int32.ofInt 1) I1 J1) ∧ (¬ (x1 = Int32.ofInt 0) → Q (some (.int v1)) (hp p s q I1 J1)))))))) : w_X8_leastFit_2 SL xs d p s q Q v1 I J := by
  unfold w_X8_leastFit_2
  refine sp_iload_n 3 rfl rfl rfl ?_
  refine sp_sipush 6 rfl rfl ?_
  refine sp_I (y := Int32.ofInt 200) rfl ?_
  refine sp_ic_gt 9 rfl rfl (fun q => ?_) (fun q => ?_)
  · have k := k.1 q
    refine sp_iconst 26 rfl rfl ?_
    exact st_iret rfl rfl (Nat.le_refl _) (Nat.le_refl _) k
  · have k := k.2 q
    refine sp_aload_n 10 rfl rfl rfl ?_
    refine sp_iload_n 11 rfl rfl rfl ?_
    refine sc_V 14 rfl rfl rfl rfl rfl (Nat.le_refl _) (Nat.le_refl _) rfl ?_
    refine mm_s_mono _ _ _ _ _ _ ?_ k
    rintro r_ h_ ⟨x1, I1, J1, rfl, rfl, k⟩
    refine sp_if_eq 17 rfl rfl (fun q => ?_) (fun q => ?_)
    · have k := k.1 q
      refine sp_iinc 22 rfl rfl rfl rfl ?_
      refine sp_goto rfl ?_
      exact k
    · have k := k.2 q
      refine sp_iload_n 18 rfl rfl rfl ?_
      exact st_iret rfl rfl (Nat.le_refl _) (Nat.le_refl _) k
def w_X8_greatestAt_18 (SL : Nat) (xs : Nat → Int32) (d : Nat) (p s q : Nat) (Q : Option Value → mm_H → Prop) (v1 : Int32) (v2 : Int32) (v3 : Int32) (v4 : Int32) (I : Nat → Nat → Int32) (J : Nat → Nat → Int64) : Prop := mm_w SL xs (mm_s SL xs (d + 1)) mm_am kX8_greatestAt 0 0 (some .int) Q 18 [some (.ref 33), some (.int v1), some (.int v2), some (.int v3), some (.int v4)] [] (hp p s q I J) 0 0
theorem sg_X8_greatestAt {SL : Nat} {xs : Nat → Int32} {d : Nat} {p s q : Nat} {Q : Option Value → mm_H → Prop} {a0 : Int32} {a1 : Int32} {I : Nat → Nat → Int32} {J : Nat → Nat → Int64}  (k : ((a1 < (Int32.ofInt 1) → Q (some (.int (Int32.ofInt 0))) (hp p s q I J)) ∧ (¬ (a1 < (Int32.ofInt 1)) → ((a1 ≤ (Int32.ofInt 60) → w_X8_greatestAt_18 SL xs d p s q Q a0 a1 (Int32.ofInt 0) (Int32.ofInt 0) I J) ∧ (¬ (a1 ≤ (Int32.ofInt 60)) → Q (some (.int (Int32.ofInt 0))) (hp p s q I J)))))) : mm_s SL xs (d + 2) 101 [.ref 33, .int a0, .int a1] (hp p s q I J) Q := by
  refine e_X8_greatestAt rfl ?_
  refine sp_iconst 1 rfl rfl ?_
  refine sp_istore_n 2 rfl rfl rfl ?_
  refine sp_iload_n 3 rfl rfl rfl ?_
  refine sp_iconst 4 rfl rfl ?_
  refine sp_ic_lt 7 rfl rfl (fun q => ?_) (fun q => ?_)
  · have k := k.1 q
    refine sp_iload_n 14 rfl rfl rfl ?_
    exact st_iret rfl rfl (Nat.le_refl _) (Nat.le_refl _) k
  · have k := k.2 q
    refine sp_iload_n 8 rfl rfl rfl ?_
    refine sp_bipush 10 rfl rfl ?_
    refine sp_I (y := Int32.ofInt 60) rfl ?_
    refine sp_ic_le 13 rfl rfl (fun q => ?_) (fun q => ?_)
    · have k := k.1 q
      refine sp_iconst 16 rfl rfl ?_
      refine sp_istore 18 rfl rfl rfl ?_
      exact k
    · have k := k.2 q
      refine sp_iload_n 14 rfl rfl rfl ?_
      exact st_iret rfl rfl (Nat.le_refl _) (Nat.le_refl _) k
theorem sg_X8_greatestAt_18 {SL : Nat} {xs : Nat → Int32} {d : Nat} {p s q : Nat} {Q : Option Value → mm_H → Prop} {v1 : Int32} {v2 : Int32} {v3 : Int32} {v4 : Int32} {I : Nat → Nat → Int32} {J : Nat → Nat → Int64}  (k : ((v1 ≤ v4 → Q (some (.int v3)) (hp p s q I J)) ∧ (¬ (v1 ≤ v4) → (((Int32.ofInt 60) ≤ v4 → Q (some (.int v3)) (hp p s q I J)) ∧ (¬ ((Int32.ofInt 60) ≤ v4) → (vp_in (((v2 - (Int32.ofInt 1)) * (Int32.ofInt 60)) + v4) 3600 ∧ w_X8_greatestAt_18 SL xs d p s q Q v1 v2 (sx_J9_max_7cf53 v3 (I 38 (((((v2 - (Int32.ofInt 1)) * (Int32.ofInt 60)) + v4)).toNatClampNeg))) (v4 + Int32.ofInt 1) I J)))))) : w_X8_greatestAt_18 SL xs d p s q Q v1 v2 v3 v4 I J := by
  unfold w_X8_greatestAt_18
  refine sp_iload 20 rfl rfl rfl ?_
  refine sp_iload_n 21 rfl rfl rfl ?_
  refine sp_ic_ge 24 rfl rfl (fun q => ?_) (fun q => ?_)
  · have k := k.1 q
    refine sp_iload_n 57 rfl rfl rfl ?_
    exact st_iret rfl rfl (Nat.le_refl _) (Nat.le_refl _) k
  · have k := k.2 q
    refine sp_iload 26 rfl rfl rfl ?_
    refine sp_bipush 28 rfl rfl ?_
    refine sp_I (y := Int32.ofInt 60) rfl ?_
    refine sp_ic_ge 31 rfl rfl (fun q => ?_) (fun q => ?_)
    · have k := k.1 q
      refine sp_iload_n 57 rfl rfl rfl ?_
      exact st_iret rfl rfl (Nat.le_refl _) (Nat.le_refl _) k
    · have k := k.2 q
      refine sp_iload_n 32 rfl rfl rfl ?_
      refine sp_aload_n 33 rfl rfl rfl ?_
      refine hq_getR 36 rfl rfl rfl rfl ?_
      refine sp_iload_n 37 rfl rfl rfl ?_
      refine sp_iconst 38 rfl rfl ?_
      refine sp_isub 39 rfl rfl ?_
      refine sp_bipush 41 rfl rfl ?_
      refine sp_I (y := Int32.ofInt 60) rfl ?_
      refine sp_imul 42 rfl rfl ?_
      refine sp_iload 44 rfl rfl rfl ?_
      refine sp_iadd 45 rfl rfl ?_
      have n1_ := k.1
      have k := k.2
      refine hq_iald 46 rfl rfl n1_ rfl ?_
      refine sc_S 49 rfl rfl rfl rfl (Nat.le_refl _) (Nat.le_refl _) rfl ?_
      refine cx_J9_max_7cf53 ?_
      refine sp_istore_n 50 rfl rfl rfl ?_
      refine sp_iinc 53 rfl rfl rfl rfl ?_
      refine sp_goto rfl ?_
      exact k
def w_X9_takeWord_10 (SL : Nat) (xs : Nat → Int32) (d : Nat) (p s q : Nat) (Q : Option Value → mm_H → Prop)  (I : Nat → Nat → Int32) (J : Nat → Nat → Int64) : Prop := mm_w SL xs (mm_s SL xs (d + 1)) mm_am kX9_takeWord 0 0 none Q 10 [some (.ref 4)] [] (hp p s q I J) 0 0
theorem sg_X9_takeWord {SL : Nat} {xs : Nat → Int32} {d : Nat} {p s q : Nat} {Q : Option Value → mm_H → Prop}  {I : Nat → Nat → Int32} {J : Nat → Nat → Int64}  (k : w_X9_takeWord_10 SL xs d p s q Q  (mm_u I 4 6 (Int32.ofInt 0)) (mm_u J 4 5 (Int64.ofInt 0))) : mm_s SL xs (d + 2) 106 [.ref 4] (hp p s q I J) Q := by
  refine e_X9_takeWord rfl ?_
  refine sp_aload_n 1 rfl rfl rfl ?_
  refine sp_lconst 2 rfl rfl ?_
  refine sp_J (y := Int64.ofInt 0) rfl ?_
  refine hq_putJ 5 rfl rfl rfl ?_
  refine sp_aload_n 6 rfl rfl rfl ?_
  refine sp_iconst 7 rfl rfl ?_
  refine hq_putI 10 rfl rfl rfl ?_
  exact k
theorem sg_X9_takeWord_10 {SL : Nat} {xs : Nat → Int32} {d : Nat} {p s q : Nat} {Q : Option Value → mm_H → Prop}  {I : Nat → Nat → Int32} {J : Nat → Nat → Int64}  (k : (((I 4 1) ≤ (I 4 7) → (((I 4 6) ≤ (Int32.ofInt 8) → (mm_s SL xs (d + 1) 108 [.ref 4, .long (J 4 5)] (hp p s q I J) (fun r_ h_ => ∃ x1 I1 J1, r_ = some (.int x1) ∧ h_ = hp p s q I1 J1 ∧ Q none (hp p s q (mm_u I1 4 2 x1) J1)))) ∧ (¬ ((I 4 6) ≤ (Int32.ofInt 8)) → Q none (hp p s q (mm_u I 4 2 (Int32.ofInt 1)) J)))) ∧ (¬ ((I 4 1) ≤ (I 4 7)) → (mm_s SL xs (d + 1) 109 [.ref 4, .int (I 4 7)] (hp p s q I J) (fun r_ h_ => ∃ x2 I2 J2, r_ = some (.int x2) ∧ h_ = hp p s q I2 J2 ∧ (((sx_X9_isLetter x2) = Int32.ofInt 0 → (((I2 4 6) ≤ (Int32.ofInt 8) → (mm_s SL xs (d + 1) 108 [.ref 4, .long (J2 4 5)] (hp p s q I2 J2) (fun r_ h_ => ∃ x3 I3 J3, r_ = some (.int x3) ∧ h_ = hp p s q I3 J3 ∧ Q none (hp p s q (mm_u I3 4 2 x3) J3)))) ∧ (¬ ((I2 4 6) ≤ (Int32.ofInt 8)) → Q none (hp p s q (mm_u I2 4 2 (Int32.ofInt 1)) J2)))) ∧ (¬ ((sx_X9_isLetter x2) = Int32.ofInt 0) → (mm_s SL xs (d + 1) 109 [.ref 4, .int (I2 4 7)] (hp p s q I2 J2) (fun r_ h_ => ∃ x4 I4 J4, r_ = some (.int x4) ∧ h_ = hp p s q I4 J4 ∧ w_X9_takeWord_10 SL xs d p s q Q  (mm_u (mm_u I4 4 6 ((I4 4 6) + (Int32.ofInt 1))) 4 7 ((I4 4 7) + (Int32.ofInt 1))) (mm_u J4 4 5 (sx_X9_withLetter (J2 4 5) x4))))))))))) : w_X9_takeWord_10 SL xs d p s q Q  I J := by
  unfold w_X9_takeWord_10
  refine sp_aload_n 11 rfl rfl rfl ?_
  refine hq_getI 14 rfl rfl rfl ?_
  refine sp_aload_n 15 rfl rfl rfl ?_
  refine hq_getI 18 rfl rfl rfl ?_
  refine sp_ic_ge 21 rfl rfl (fun q => ?_) (fun q => ?_)
  · have k := k.1 q
    refine sp_aload_n 78 rfl rfl rfl ?_
    refine sp_aload_n 79 rfl rfl rfl ?_
    refine hq_getI 82 rfl rfl rfl ?_
    refine sp_bipush 84 rfl rfl ?_
    refine sp_I (y := Int32.ofInt 8) rfl ?_
    refine sp_ic_le 87 rfl rfl (fun q => ?_) (fun q => ?_)
    · have k := k.1 q
      refine sp_aload_n 92 rfl rfl rfl ?_
      refine sp_aload_n 93 rfl rfl rfl ?_
      refine hq_getJ 96 rfl rfl rfl ?_
      refine sc_V 99 rfl rfl rfl rfl rfl (Nat.le_refl _) (Nat.le_refl _) rfl ?_
      refine mm_s_mono _ _ _ _ _ _ ?_ k
      rintro r_ h_ ⟨x1, I1, J1, rfl, rfl, k⟩
      refine hq_putI 102 rfl rfl rfl ?_
      exact st_vret rfl rfl (Nat.le_refl _) (Nat.le_refl _) k
    · have k := k.2 q
      refine sp_iconst 88 rfl rfl ?_
      refine sp_goto rfl ?_
      refine hq_putI 102 rfl rfl rfl ?_
      exact st_vret rfl rfl (Nat.le_refl _) (Nat.le_refl _) k
  · have k := k.2 q
    refine sp_aload_n 22 rfl rfl rfl ?_
    refine sp_aload_n 23 rfl rfl rfl ?_
    refine hq_getI 26 rfl rfl rfl ?_
    refine sc_V 29 rfl rfl rfl rfl rfl (Nat.le_refl _) (Nat.le_refl _) rfl ?_
    refine mm_s_mono _ _ _ _ _ _ ?_ k
    rintro r_ h_ ⟨x2, I2, J2, rfl, rfl, k⟩
    refine sc_S 32 rfl rfl rfl rfl (Nat.le_refl _) (Nat.le_refl _) rfl ?_
    refine cx_X9_isLetter ?_
    refine sp_if_eq 35 rfl rfl (fun q => ?_) (fun q => ?_)
    · have k := k.1 q
      refine sp_aload_n 78 rfl rfl rfl ?_
      refine sp_aload_n 79 rfl rfl rfl ?_
      refine hq_getI 82 rfl rfl rfl ?_
      refine sp_bipush 84 rfl rfl ?_
      refine sp_I (y := Int32.ofInt 8) rfl ?_
      refine sp_ic_le 87 rfl rfl (fun q => ?_) (fun q => ?_)
      · have k := k.1 q
        refine sp_aload_n 92 rfl rfl rfl ?_
        refine sp_aload_n 93 rfl rfl rfl ?_
        refine hq_getJ 96 rfl rfl rfl ?_
        refine sc_V 99 rfl rfl rfl rfl rfl (Nat.le_refl _) (Nat.le_refl _) rfl ?_
        refine mm_s_mono _ _ _ _ _ _ ?_ k
        rintro r_ h_ ⟨x3, I3, J3, rfl, rfl, k⟩
        refine hq_putI 102 rfl rfl rfl ?_
        exact st_vret rfl rfl (Nat.le_refl _) (Nat.le_refl _) k
      · have k := k.2 q
        refine sp_iconst 88 rfl rfl ?_
        refine sp_goto rfl ?_
        refine hq_putI 102 rfl rfl rfl ?_
        exact st_vret rfl rfl (Nat.le_refl _) (Nat.le_refl _) k
    · have k := k.2 q
      refine sp_aload_n 36 rfl rfl rfl ?_
      refine sp_aload_n 37 rfl rfl rfl ?_
      refine hq_getJ 40 rfl rfl rfl ?_
      refine sp_aload_n 41 rfl rfl rfl ?_
      refine sp_aload_n 42 rfl rfl rfl ?_
      refine hq_getI 45 rfl rfl rfl ?_
      refine sc_V 48 rfl rfl rfl rfl rfl (Nat.le_refl _) (Nat.le_refl _) rfl ?_
      refine mm_s_mono _ _ _ _ _ _ ?_ k
      rintro r_ h_ ⟨x4, I4, J4, rfl, rfl, k⟩
      refine sc_S 51 rfl rfl rfl rfl (Nat.le_refl _) (Nat.le_refl _) rfl ?_
      refine cx_X9_withLetter ?_
      refine hq_putJ 54 rfl rfl rfl ?_
      refine sp_aload_n 55 rfl rfl rfl ?_
      refine sp_dup 56 rfl rfl rfl ?_
      refine hq_getI 59 rfl rfl rfl ?_
      refine sp_iconst 60 rfl rfl ?_
      refine sp_iadd 61 rfl rfl ?_
      refine hq_putI 64 rfl rfl rfl ?_
      refine sp_aload_n 65 rfl rfl rfl ?_
      refine sp_dup 66 rfl rfl rfl ?_
      refine hq_getI 69 rfl rfl rfl ?_
      refine sp_I (y := (I4 4 7)) (by simp [mm_u]) ?_
      refine sp_iconst 70 rfl rfl ?_
      refine sp_iadd 71 rfl rfl ?_
      refine hq_putI 74 rfl rfl rfl ?_
      refine sp_goto rfl ?_
      exact k
def w_X9_takeNumber_7 (SL : Nat) (xs : Nat → Int32) (d : Nat) (p s q : Nat) (Q : Option Value → mm_H → Prop) (v1 : Int32) (I : Nat → Nat → Int32) (J : Nat → Nat → Int64) : Prop := mm_w SL xs (mm_s SL xs (d + 1)) mm_am kX9_takeNumber 0 0 none Q 7 [some (.ref 4), some (.int v1)] [] (hp p s q I J) 0 0
theorem sg_X9_takeNumber {SL : Nat} {xs : Nat → Int32} {d : Nat} {p s q : Nat} {Q : Option Value → mm_H → Prop}  {I : Nat → Nat → Int32} {J : Nat → Nat → Int64}  (k : w_X9_takeNumber_7 SL xs d p s q Q (Int32.ofInt 0) (mm_u I 4 4 (Int32.ofInt 0)) J) : mm_s SL xs (d + 2) 107 [.ref 4] (hp p s q I J) Q := by
  refine e_X9_takeNumber rfl ?_
  refine sp_iconst 1 rfl rfl ?_
  refine sp_istore_n 2 rfl rfl rfl ?_
  refine sp_aload_n 3 rfl rfl rfl ?_
  refine sp_iconst 4 rfl rfl ?_
  refine hq_putI 7 rfl rfl rfl ?_
  exact k
theorem sg_X9_takeNumber_7 {SL : Nat} {xs : Nat → Int32} {d : Nat} {p s q : Nat} {Q : Option Value → mm_H → Prop} {v1 : Int32} {I : Nat → Nat → Int32} {J : Nat → Nat → Int64}  (k : (((I 4 1) ≤ (I 4 7) → (((Int32.ofInt 4) < v1 → Q none (hp p s q (mm_u I 4 2 (Int32.ofInt 1)) J)) ∧ (¬ ((Int32.ofInt 4) < v1) → (mm_s SL xs (d + 1) 109 [.ref 4, .int (I 4 7)] (hp p s q I J) (fun r_ h_ => ∃ x1 I1 J1, r_ = some (.int x1) ∧ h_ = hp p s q I1 J1 ∧ (((sx_X9_isLetter x1) = Int32.ofInt 0 → Q none (hp p s q (mm_u I1 4 2 (Int32.ofInt 2)) J1)) ∧ (¬ ((sx_X9_isLetter x1) = Int32.ofInt 0) → Q none (hp p s q (mm_u I1 4 2 (Int32.ofInt 1)) J1)))))))) ∧ (¬ ((I 4 1) ≤ (I 4 7)) → (mm_s SL xs (d + 1) 109 [.ref 4, .int (I 4 7)] (hp p s q I J) (fun r_ h_ => ∃ x2 I2 J2, r_ = some (.int x2) ∧ h_ = hp p s q I2 J2 ∧ (((sx_X9_isDigit x2) = Int32.ofInt 0 → (((Int32.ofInt 4) < v1 → Q none (hp p s q (mm_u I2 4 2 (Int32.ofInt 1)) J2)) ∧ (¬ ((Int32.ofInt 4) < v1) → (mm_s SL xs (d + 1) 109 [.ref 4, .int (I2 4 7)] (hp p s q I2 J2) (fun r_ h_ => ∃ x3 I3 J3, r_ = some (.int x3) ∧ h_ = hp p s q I3 J3 ∧ (((sx_X9_isLetter x3) = Int32.ofInt 0 → Q none (hp p s q (mm_u I3 4 2 (Int32.ofInt 2)) J3)) ∧ (¬ ((sx_X9_isLetter x3) = Int32.ofInt 0) → Q none (hp p s q (mm_u I3 4 2 (Int32.ofInt 1)) J3)))))))) ∧ (¬ ((sx_X9_isDigit x2) = Int32.ofInt 0) → (mm_s SL xs (d + 1) 109 [.ref 4, .int (I2 4 7)] (hp p s q I2 J2) (fun r_ h_ => ∃ x4 I4 J4, r_ = some (.int x4) ∧ h_ = hp p s q I4 J4 ∧ w_X9_takeNumber_7 SL xs d p s q Q (v1 + Int32.ofInt 1) (mm_u (mm_u I4 4 4 ((((I2 4 4) * (Int32.ofInt 10)) + x4) - (Int32.ofInt 48))) 4 7 ((I4 4 7) + (Int32.ofInt 1))) J4))))))))) : w_X9_takeNumber_7 SL xs d p s q Q v1 I J := by
  unfold w_X9_takeNumber_7
  refine sp_aload_n 8 rfl rfl rfl ?_
  refine hq_getI 11 rfl rfl rfl ?_
  refine sp_aload_n 12 rfl rfl rfl ?_
  refine hq_getI 15 rfl rfl rfl ?_
  refine sp_ic_ge 18 rfl rfl (fun q => ?_) (fun q => ?_)
  · have k := k.1 q
    refine sp_aload_n 72 rfl rfl rfl ?_
    refine sp_iload_n 73 rfl rfl rfl ?_
    refine sp_iconst 74 rfl rfl ?_
    refine sp_ic_gt 77 rfl rfl (fun q => ?_) (fun q => ?_)
    · have k := k.1 q
      refine sp_iconst 92 rfl rfl ?_
      refine sp_goto rfl ?_
      refine hq_putI 99 rfl rfl rfl ?_
      exact st_vret rfl rfl (Nat.le_refl _) (Nat.le_refl _) k
    · have k := k.2 q
      refine sp_aload_n 78 rfl rfl rfl ?_
      refine sp_aload_n 79 rfl rfl rfl ?_
      refine hq_getI 82 rfl rfl rfl ?_
      refine sc_V 85 rfl rfl rfl rfl rfl (Nat.le_refl _) (Nat.le_refl _) rfl ?_
      refine mm_s_mono _ _ _ _ _ _ ?_ k
      rintro r_ h_ ⟨x1, I1, J1, rfl, rfl, k⟩
      refine sc_S 88 rfl rfl rfl rfl (Nat.le_refl _) (Nat.le_refl _) rfl ?_
      refine cx_X9_isLetter ?_
      refine sp_if_eq 91 rfl rfl (fun q => ?_) (fun q => ?_)
      · have k := k.1 q
        refine sp_iconst 96 rfl rfl ?_
        refine hq_putI 99 rfl rfl rfl ?_
        exact st_vret rfl rfl (Nat.le_refl _) (Nat.le_refl _) k
      · have k := k.2 q
        refine sp_iconst 92 rfl rfl ?_
        refine sp_goto rfl ?_
        refine hq_putI 99 rfl rfl rfl ?_
        exact st_vret rfl rfl (Nat.le_refl _) (Nat.le_refl _) k
  · have k := k.2 q
    refine sp_aload_n 19 rfl rfl rfl ?_
    refine sp_aload_n 20 rfl rfl rfl ?_
    refine hq_getI 23 rfl rfl rfl ?_
    refine sc_V 26 rfl rfl rfl rfl rfl (Nat.le_refl _) (Nat.le_refl _) rfl ?_
    refine mm_s_mono _ _ _ _ _ _ ?_ k
    rintro r_ h_ ⟨x2, I2, J2, rfl, rfl, k⟩
    refine sc_S 29 rfl rfl rfl rfl (Nat.le_refl _) (Nat.le_refl _) rfl ?_
    refine cx_X9_isDigit ?_
    refine sp_if_eq 32 rfl rfl (fun q => ?_) (fun q => ?_)
    · have k := k.1 q
      refine sp_aload_n 72 rfl rfl rfl ?_
      refine sp_iload_n 73 rfl rfl rfl ?_
      refine sp_iconst 74 rfl rfl ?_
      refine sp_ic_gt 77 rfl rfl (fun q => ?_) (fun q => ?_)
      · have k := k.1 q
        refine sp_iconst 92 rfl rfl ?_
        refine sp_goto rfl ?_
        refine hq_putI 99 rfl rfl rfl ?_
        exact st_vret rfl rfl (Nat.le_refl _) (Nat.le_refl _) k
      · have k := k.2 q
        refine sp_aload_n 78 rfl rfl rfl ?_
        refine sp_aload_n 79 rfl rfl rfl ?_
        refine hq_getI 82 rfl rfl rfl ?_
        refine sc_V 85 rfl rfl rfl rfl rfl (Nat.le_refl _) (Nat.le_refl _) rfl ?_
        refine mm_s_mono _ _ _ _ _ _ ?_ k
        rintro r_ h_ ⟨x3, I3, J3, rfl, rfl, k⟩
        refine sc_S 88 rfl rfl rfl rfl (Nat.le_refl _) (Nat.le_refl _) rfl ?_
        refine cx_X9_isLetter ?_
        refine sp_if_eq 91 rfl rfl (fun q => ?_) (fun q => ?_)
        · have k := k.1 q
          refine sp_iconst 96 rfl rfl ?_
          refine hq_putI 99 rfl rfl rfl ?_
          exact st_vret rfl rfl (Nat.le_refl _) (Nat.le_refl _) k
        · have k := k.2 q
          refine sp_iconst 92 rfl rfl ?_
          refine sp_goto rfl ?_
          refine hq_putI 99 rfl rfl rfl ?_
          exact st_vret rfl rfl (Nat.le_refl _) (Nat.le_refl _) k
    · have k := k.2 q
      refine sp_aload_n 33 rfl rfl rfl ?_
      refine sp_aload_n 34 rfl rfl rfl ?_
      refine hq_getI 37 rfl rfl rfl ?_
      refine sp_bipush 39 rfl rfl ?_
      refine sp_I (y := Int32.ofInt 10) rfl ?_
      refine sp_imul 40 rfl rfl ?_
      refine sp_aload_n 41 rfl rfl rfl ?_
      refine sp_aload_n 42 rfl rfl rfl ?_
      refine hq_getI 45 rfl rfl rfl ?_
      refine sc_V 48 rfl rfl rfl rfl rfl (Nat.le_refl _) (Nat.le_refl _) rfl ?_
      refine mm_s_mono _ _ _ _ _ _ ?_ k
      rintro r_ h_ ⟨x4, I4, J4, rfl, rfl, k⟩
      refine sp_iadd 49 rfl rfl ?_
      refine sp_bipush 51 rfl rfl ?_
      refine sp_I (y := Int32.ofInt 48) rfl ?_
      refine sp_isub 52 rfl rfl ?_
      refine hq_putI 55 rfl rfl rfl ?_
      refine sp_iinc 58 rfl rfl rfl rfl ?_
      refine sp_aload_n 59 rfl rfl rfl ?_
      refine sp_dup 60 rfl rfl rfl ?_
      refine hq_getI 63 rfl rfl rfl ?_
      refine sp_I (y := (I4 4 7)) (by simp [mm_u]) ?_
      refine sp_iconst 64 rfl rfl ?_
      refine sp_iadd 65 rfl rfl ?_
      refine hq_putI 68 rfl rfl rfl ?_
      refine sp_goto rfl ?_
      exact k
theorem sg_X1_nextCount {SL : Nat} {xs : Nat → Int32} {d : Nat} {p s q : Nat} {Q : Option Value → mm_H → Prop} {o : Nat} {a0 : Nat} {I : Nat → Nat → Int32} {J : Nat → Nat → Int64} (h_a0 : isP a0) (h_o : isC o) (k : (mm_s SL xs (d + 2) 60 [.ref a0, .int ((I o 2) + (Int32.ofInt 1)), .int (sy_X1_standing o I J), .int (I o 10)] (hp p s q I J) (fun r_ h_ => ∃ x1 I1 J1, r_ = some (.int x1) ∧ h_ = hp p s q I1 J1 ∧ Q (some (.int x1)) (hp p s q I1 J1)))) : mm_s SL xs (d + 3) 20 [.ref o, .ref a0] (hp p s q I J) Q := by
  refine e_X1_nextCount rfl ?_
  refine sp_aload_n 1 rfl rfl rfl ?_
  refine sp_aload_n 2 rfl rfl rfl ?_
  refine hq_getI 5 rfl (kC0 h_o) rfl ?_
  refine sp_iconst 6 rfl rfl ?_
  refine sp_iadd 7 rfl rfl ?_
  refine sp_aload_n 8 rfl rfl rfl ?_
  refine sc_V 11 rfl rfl (kC0 h_o) rfl rfl (Nat.le_refl _) (Nat.le_refl _) rfl ?_
  refine cy_X1_standing h_o ?_
  refine sp_aload_n 12 rfl rfl rfl ?_
  refine hq_getI 15 rfl (kC0 h_o) rfl ?_
  refine sc_V 18 rfl rfl (kP0 h_a0) rfl rfl (Nat.le_refl _) (Nat.le_refl _) rfl ?_
  refine mm_s_mono _ _ _ _ _ _ ?_ k
  rintro r_ h_ ⟨x1, I1, J1, rfl, rfl, k⟩
  exact st_iret rfl rfl (Nat.le_refl _) (Nat.le_refl _) k
theorem sg_X1_hit {SL : Nat} {xs : Nat → Int32} {d : Nat} {p s q : Nat} {Q : Option Value → mm_H → Prop} {o : Nat} {a0 : Nat} {a1 : Int32} {I : Nat → Nat → Int32} {J : Nat → Nat → Int64} (h_a0 : isP a0) (h_o : isC o) (k : ((a1 < Int32.ofInt 0 → Q none (hp p s q I J)) ∧ (¬ (a1 < Int32.ofInt 0) → ((a1 < (Int32.ofInt 60) → (vp_in a1 60 ∧ (((sy_X5_hitsToGo a0 a1 (mm_u I (o + 1) ((a1).toNatClampNeg) ((I (o + 1) ((a1).toNatClampNeg)) + (Int32.ofInt 1))) J) ≤ ((I (o + 1) ((a1).toNatClampNeg)) + (Int32.ofInt 1)) → (((Int32.ofInt 60) ≤ (I o 5) → Q none (hp p s q (mm_u (mm_u I (o + 1) ((a1).toNatClampNeg) ((I (o + 1) ((a1).toNatClampNeg)) + (Int32.ofInt 1))) (o + 2) ((a1).toNatClampNeg) (I o 2)) (mm_u J o 1 ((J o 1) &&& ((sx_X6_bit a1) ^^^ (Int64.ofInt (-1))))))) ∧ (¬ ((Int32.ofInt 60) ≤ (I o 5)) → (vp_in (I o 5) 60 ∧ Q none (hp p s q (mm_u (mm_u (mm_u (mm_u I (o + 1) ((a1).toNatClampNeg) ((I (o + 1) ((a1).toNatClampNeg)) + (Int32.ofInt 1))) (o + 2) ((a1).toNatClampNeg) (I o 2)) (o + 3) (((I o 5)).toNatClampNeg) a1) o 5 ((I o 5) + (Int32.ofInt 1))) (mm_u J o 1 ((J o 1) &&& ((sx_X6_bit a1) ^^^ (Int64.ofInt (-1)))))))))) ∧ (¬ ((sy_X5_hitsToGo a0 a1 (mm_u I (o + 1) ((a1).toNatClampNeg) ((I (o + 1) ((a1).toNatClampNeg)) + (Int32.ofInt 1))) J) ≤ ((I (o + 1) ((a1).toNatClampNeg)) + (Int32.ofInt 1))) → Q none (hp p s q (mm_u I (o + 1) ((a1).toNatClampNeg) ((I (o + 1) ((a1).toNatClampNeg)) + (Int32.ofInt 1))) J))))) ∧ (¬ (a1 < (Int32.ofInt 60)) → Q none (hp p s q I J)))))) : mm_s SL xs (d + 3) 23 [.ref o, .ref a0, .int a1] (hp p s q I J) Q := by
  refine e_X1_hit rfl ?_
  refine sp_iload_n 1 rfl rfl rfl ?_
  refine sp_if_lt 4 rfl rfl (fun q => ?_) (fun q => ?_)
  · have k := k.1 q
    exact st_vret rfl rfl (Nat.le_refl _) (Nat.le_refl _) k
  · have k := k.2 q
    refine sp_iload_n 5 rfl rfl rfl ?_
    refine sp_bipush 7 rfl rfl ?_
    refine sp_I (y := Int32.ofInt 60) rfl ?_
    refine sp_ic_lt 10 rfl rfl (fun q => ?_) (fun q => ?_)
    · have k := k.1 q
      refine sp_aload_n 12 rfl rfl rfl ?_
      refine hq_getR 15 rfl (kC0 h_o) (rC1 h_o) rfl ?_
      refine sp_iload_n 16 rfl rfl rfl ?_
      refine sp_dup2 17 rfl rfl rfl rfl ?_
      have n1_ := k.1
      have k := k.2
      refine hq_iald 18 rfl (kC1 h_o) n1_ rfl ?_
      refine sp_iconst 19 rfl rfl ?_
      refine sp_iadd 20 rfl rfl ?_
      refine hq_iast 21 rfl (kC1 h_o) n1_ rfl ?_
      refine sp_aload_n 22 rfl rfl rfl ?_
      refine hq_getR 25 rfl (kC0 h_o) (rC1 h_o) rfl ?_
      refine sp_iload_n 26 rfl rfl rfl ?_
      refine hq_iald 27 rfl (kC1 h_o) n1_ rfl ?_
      refine sp_I (y := ((I (o + 1) ((a1).toNatClampNeg)) + (Int32.ofInt 1))) (by simp [mm_u]) ?_
      refine sp_aload_n 28 rfl rfl rfl ?_
      refine sp_iload_n 29 rfl rfl rfl ?_
      refine sc_V 32 rfl rfl (kP0 h_a0) rfl rfl (Nat.le_refl _) (Nat.le_refl _) rfl ?_
      refine cy_X5_hitsToGo h_a0 ?_
      refine sp_ic_ge 35 rfl rfl (fun q => ?_) (fun q => ?_)
      · have k := k.1 q
        refine sp_aload_n 37 rfl rfl rfl ?_
        refine sp_dup 38 rfl rfl rfl ?_
        refine hq_getJ 41 rfl (kC0 h_o) rfl ?_
        refine sp_iload_n 42 rfl rfl rfl ?_
        refine sc_S 45 rfl rfl rfl rfl (Nat.le_refl _) (Nat.le_refl _) rfl ?_
        refine cx_X6_bit ?_
        refine sp_ldc2 48 rfl rfl ?_
        refine sp_lxor 49 rfl rfl ?_
        refine sp_land 50 rfl rfl ?_
        refine hq_putJ 53 rfl (kC0 h_o) rfl ?_
        refine sp_aload_n 54 rfl rfl rfl ?_
        refine hq_getR 57 rfl (kC0 h_o) (rC2 h_o) rfl ?_
        refine sp_iload_n 58 rfl rfl rfl ?_
        refine sp_aload_n 59 rfl rfl rfl ?_
        refine hq_getI 62 rfl (kC0 h_o) rfl ?_
        refine sp_I (y := (I o 2)) (by simp [mm_u]) ?_
        refine hq_iast 63 rfl (kC2 h_o) n1_ rfl ?_
        refine sp_aload_n 64 rfl rfl rfl ?_
        refine hq_getI 67 rfl (kC0 h_o) rfl ?_
        refine sp_I (y := (I o 5)) (by simp [mm_u]) ?_
        refine sp_bipush 69 rfl rfl ?_
        refine sp_I (y := Int32.ofInt 60) rfl ?_
        refine sp_ic_ge 72 rfl rfl (fun q => ?_) (fun q => ?_)
        · have k := k.1 q
          exact st_vret rfl rfl (Nat.le_refl _) (Nat.le_refl _) k
        · have k := k.2 q
          refine sp_aload_n 73 rfl rfl rfl ?_
          refine hq_getR 76 rfl (kC0 h_o) (rC3 h_o) rfl ?_
          refine sp_aload_n 77 rfl rfl rfl ?_
          refine hq_getI 80 rfl (kC0 h_o) rfl ?_
          refine sp_I (y := (I o 5)) (by simp [mm_u]) ?_
          refine sp_iload_n 81 rfl rfl rfl ?_
          have n2_ := k.1
          have k := k.2
          refine hq_iast 82 rfl (kC3 h_o) n2_ rfl ?_
          refine sp_aload_n 83 rfl rfl rfl ?_
          refine sp_dup 84 rfl rfl rfl ?_
          refine hq_getI 87 rfl (kC0 h_o) rfl ?_
          refine sp_I (y := (I o 5)) (by simp [mm_u]) ?_
          refine sp_iconst 88 rfl rfl ?_
          refine sp_iadd 89 rfl rfl ?_
          refine hq_putI 92 rfl (kC0 h_o) rfl ?_
          exact st_vret rfl rfl (Nat.le_refl _) (Nat.le_refl _) k
      · have k := k.2 q
        exact st_vret rfl rfl (Nat.le_refl _) (Nat.le_refl _) k
    · have k := k.2 q
      exact st_vret rfl rfl (Nat.le_refl _) (Nat.le_refl _) k
def w_X2_tallyUpTo_6 (SL : Nat) (xs : Nat → Int32) (d : Nat) (p s q : Nat) (Q : Option Value → mm_H → Prop) (v1 : Int32) (v2 : Int32) (v3 : Int32) (I : Nat → Nat → Int32) (J : Nat → Nat → Int64) : Prop := mm_w SL xs (mm_s SL xs (d + 2)) mm_am kX2_tallyUpTo 0 0 none Q 6 [some (.ref 31), some (.int v1), some (.int v2), some (.int v3)] [] (hp p s q I J) 0 0
theorem sg_X2_tallyUpTo {SL : Nat} {xs : Nat → Int32} {d : Nat} {p s q : Nat} {Q : Option Value → mm_H → Prop} {a0 : Int32} {a1 : Int32} {I : Nat → Nat → Int32} {J : Nat → Nat → Int64}  (k : (mm_s SL xs (d + 2) 25 [.ref 31] (hp p s q I J) (fun r_ h_ => ∃ I1 J1, r_ = none ∧ h_ = hp p s q I1 J1 ∧ w_X2_tallyUpTo_6 SL xs d p s q Q a0 a1 (Int32.ofInt 1) I1 J1))) : mm_s SL xs (d + 3) 27 [.ref 31, .int a0, .int a1] (hp p s q I J) Q := by
  refine e_X2_tallyUpTo rfl ?_
  refine sp_aload_n 1 rfl rfl rfl ?_
  refine sc_V 4 rfl rfl rfl rfl rfl (Nat.le_refl _) (Nat.le_refl _) rfl ?_
  refine mm_s_mono _ _ _ _ _ _ ?_ k
  rintro r_ h_ ⟨I1, J1, rfl, rfl, k⟩
  refine sp_iconst 5 rfl rfl ?_
  refine sp_istore_n 6 rfl rfl rfl ?_
  exact k
theorem sg_X2_tallyUpTo_6 {SL : Nat} {xs : Nat → Int32} {d : Nat} {p s q : Nat} {Q : Option Value → mm_H → Prop} {v1 : Int32} {v2 : Int32} {v3 : Int32} {I : Nat → Nat → Int32} {J : Nat → Nat → Int64}  (k : ((v2 < v3 → Q none (hp p s q I J)) ∧ (¬ (v2 < v3) → (mm_s SL xs (d + 2) 40 [.int v1, .int v3, .int v1] (hp p s q I J) (fun r_ h_ => ∃ x1 I1 J1, r_ = some (.int x1) ∧ h_ = hp p s q I1 J1 ∧ (mm_s SL xs (d + 2) 26 [.ref 31, .int x1, .int (Int32.ofInt 1)] (hp p s q I1 J1) (fun r_ h_ => ∃ I2 J2, r_ = none ∧ h_ = hp p s q I2 J2 ∧ w_X2_tallyUpTo_6 SL xs d p s q Q v1 v2 (v3 + Int32.ofInt 1) I2 J2))))))) : w_X2_tallyUpTo_6 SL xs d p s q Q v1 v2 v3 I J := by
  unfold w_X2_tallyUpTo_6
  refine sp_iload_n 7 rfl rfl rfl ?_
  refine sp_iload_n 8 rfl rfl rfl ?_
  refine sp_ic_gt 11 rfl rfl (fun q => ?_) (fun q => ?_)
  · have k := k.1 q
    exact st_vret rfl rfl (Nat.le_refl _) (Nat.le_refl _) k
  · have k := k.2 q
    refine sp_aload_n 12 rfl rfl rfl ?_
    refine sp_iload_n 13 rfl rfl rfl ?_
    refine sp_iload_n 14 rfl rfl rfl ?_
    refine sp_iload_n 15 rfl rfl rfl ?_
    refine sc_S 18 rfl rfl rfl rfl (Nat.le_refl _) (Nat.le_refl _) rfl ?_
    refine mm_s_mono _ _ _ _ _ _ ?_ k
    rintro r_ h_ ⟨x1, I1, J1, rfl, rfl, k⟩
    refine sp_iconst 19 rfl rfl ?_
    refine sc_V 22 rfl rfl rfl rfl rfl (Nat.le_refl _) (Nat.le_refl _) rfl ?_
    refine mm_s_mono _ _ _ _ _ _ ?_ k
    rintro r_ h_ ⟨I2, J2, rfl, rfl, k⟩
    refine sp_iinc 25 rfl rfl rfl rfl ?_
    refine sp_goto rfl ?_
    exact k
def w_X2_tallyDrawn_6 (SL : Nat) (xs : Nat → Int32) (d : Nat) (p s q : Nat) (Q : Option Value → mm_H → Prop) (v1 : Int32) (a1 : Nat) (v3 : Int32) (I : Nat → Nat → Int32) (J : Nat → Nat → Int64) : Prop := mm_w SL xs (mm_s SL xs (d + 2)) mm_am kX2_tallyDrawn 0 0 none Q 6 [some (.ref 31), some (.int v1), some (.ref a1), some (.int v3)] [] (hp p s q I J) 0 0
theorem sg_X2_tallyDrawn {SL : Nat} {xs : Nat → Int32} {d : Nat} {p s q : Nat} {Q : Option Value → mm_H → Prop} {a0 : Int32} {a1 : Nat} {I : Nat → Nat → Int32} {J : Nat → Nat → Int64}  (k : (mm_s SL xs (d + 2) 25 [.ref 31] (hp p s q I J) (fun r_ h_ => ∃ I1 J1, r_ = none ∧ h_ = hp p s q I1 J1 ∧ w_X2_tallyDrawn_6 SL xs d p s q Q a0 a1 (Int32.ofInt 0) I1 J1))) : mm_s SL xs (d + 3) 28 [.ref 31, .int a0, .ref a1] (hp p s q I J) Q := by
  refine e_X2_tallyDrawn rfl ?_
  refine sp_aload_n 1 rfl rfl rfl ?_
  refine sc_V 4 rfl rfl rfl rfl rfl (Nat.le_refl _) (Nat.le_refl _) rfl ?_
  refine mm_s_mono _ _ _ _ _ _ ?_ k
  rintro r_ h_ ⟨I1, J1, rfl, rfl, k⟩
  refine sp_iconst 5 rfl rfl ?_
  refine sp_istore_n 6 rfl rfl rfl ?_
  exact k
theorem sg_X2_tallyDrawn_6 {SL : Nat} {xs : Nat → Int32} {d : Nat} {p s q : Nat} {Q : Option Value → mm_H → Prop} {v1 : Int32} {a1 : Nat} {v3 : Int32} {I : Nat → Nat → Int32} {J : Nat → Nat → Int64} (h_a1 : isP a1) (k : (((I a1 11) ≤ v3 → Q none (hp p s q I J)) ∧ (¬ ((I a1 11) ≤ v3) → (((Int32.ofInt 12) ≤ v3 → Q none (hp p s q I J)) ∧ (¬ ((Int32.ofInt 12) ≤ v3) → (vp_in v3 12 ∧ (mm_s SL xs (d + 2) 40 [.int v1, .int (I (a1 + 3) ((v3).toNatClampNeg)), .int v1] (hp p s q I J) (fun r_ h_ => ∃ x1 I1 J1, r_ = some (.int x1) ∧ h_ = hp p s q I1 J1 ∧ (mm_s SL xs (d + 2) 26 [.ref 31, .int x1, .int (I1 (a1 + 4) ((v3).toNatClampNeg))] (hp p s q I1 J1) (fun r_ h_ => ∃ I2 J2, r_ = none ∧ h_ = hp p s q I2 J2 ∧ w_X2_tallyDrawn_6 SL xs d p s q Q v1 a1 (v3 + Int32.ofInt 1) I2 J2)))))))))) : w_X2_tallyDrawn_6 SL xs d p s q Q v1 a1 v3 I J := by
  unfold w_X2_tallyDrawn_6
  refine sp_iload_n 7 rfl rfl rfl ?_
  refine sp_aload_n 8 rfl rfl rfl ?_
  refine hq_getI 11 rfl (kP0 h_a1) rfl ?_
  refine sp_ic_ge 14 rfl rfl (fun q => ?_) (fun q => ?_)
  · have k := k.1 q
    exact st_vret rfl rfl (Nat.le_refl _) (Nat.le_refl _) k
  · have k := k.2 q
    refine sp_iload_n 15 rfl rfl rfl ?_
    refine sp_bipush 17 rfl rfl ?_
    refine sp_I (y := Int32.ofInt 12) rfl ?_
    refine sp_ic_ge 20 rfl rfl (fun q => ?_) (fun q => ?_)
    · have k := k.1 q
      exact st_vret rfl rfl (Nat.le_refl _) (Nat.le_refl _) k
    · have k := k.2 q
      refine sp_aload_n 21 rfl rfl rfl ?_
      refine sp_iload_n 22 rfl rfl rfl ?_
      refine sp_aload_n 23 rfl rfl rfl ?_
      refine hq_getR 26 rfl (kP0 h_a1) (rP3 h_a1) rfl ?_
      refine sp_iload_n 27 rfl rfl rfl ?_
      have n1_ := k.1
      have k := k.2
      refine hq_iald 28 rfl (kP3 h_a1) n1_ rfl ?_
      refine sp_iload_n 29 rfl rfl rfl ?_
      refine sc_S 32 rfl rfl rfl rfl (Nat.le_refl _) (Nat.le_refl _) rfl ?_
      refine mm_s_mono _ _ _ _ _ _ ?_ k
      rintro r_ h_ ⟨x1, I1, J1, rfl, rfl, k⟩
      refine sp_aload_n 33 rfl rfl rfl ?_
      refine hq_getR 36 rfl (kP0 h_a1) (rP4 h_a1) rfl ?_
      refine sp_iload_n 37 rfl rfl rfl ?_
      refine hq_iald 38 rfl (kP4 h_a1) n1_ rfl ?_
      refine sc_V 41 rfl rfl rfl rfl rfl (Nat.le_refl _) (Nat.le_refl _) rfl ?_
      refine mm_s_mono _ _ _ _ _ _ ?_ k
      rintro r_ h_ ⟨I2, J2, rfl, rfl, k⟩
      refine sp_iinc 44 rfl rfl rfl rfl ?_
      refine sp_goto rfl ?_
      exact k
def w_X6_ranked_5 (SL : Nat) (xs : Nat → Int32) (d : Nat) (p s q : Nat) (Q : Option Value → mm_H → Prop) (v0 : Int64) (v2 : Int32) (v3 : Int64) (v5 : Int32) (I : Nat → Nat → Int32) (J : Nat → Nat → Int64) : Prop := mm_w SL xs (mm_s SL xs (d + 2)) mm_am kX6_ranked 0 0 (some .int) Q 5 [some (.long v0), none, some (.int v2), some (.long v3), none, some (.int v5)] [] (hp p s q I J) 0 0
theorem sg_X6_ranked {SL : Nat} {xs : Nat → Int32} {d : Nat} {p s q : Nat} {Q : Option Value → mm_H → Prop} {a0 : Int64} {a1 : Int32} {I : Nat → Nat → Int32} {J : Nat → Nat → Int64}  (k : w_X6_ranked_5 SL xs d p s q Q a0 a1 a0 (Int32.ofInt 0) I J) : mm_s SL xs (d + 3) 69 [.long a0, .int a1] (hp p s q I J) Q := by
  refine e_X6_ranked rfl ?_
  refine sp_lload_n 1 rfl rfl rfl ?_
  refine sp_lstore_n 2 rfl rfl rfl ?_
  refine sp_iconst 3 rfl rfl ?_
  refine sp_istore 5 rfl rfl rfl ?_
  exact k
theorem sg_X6_ranked_5 {SL : Nat} {xs : Nat → Int32} {d : Nat} {p s q : Nat} {Q : Option Value → mm_H → Prop} {v0 : Int64} {v2 : Int32} {v3 : Int64} {v5 : Int32} {I : Nat → Nat → Int32} {J : Nat → Nat → Int64}  (k : ((v2 ≤ v5 → ((v3 = (Int64.ofInt 0) → Q (some (.int (Int32.ofInt (-1)))) (hp p s q I J)) ∧ (¬ (v3 = (Int64.ofInt 0)) → Q (some (.int (tz64 v3))) (hp p s q I J)))) ∧ (¬ (v2 ≤ v5) → (((Int32.ofInt 60) ≤ v5 → ((v3 = (Int64.ofInt 0) → Q (some (.int (Int32.ofInt (-1)))) (hp p s q I J)) ∧ (¬ (v3 = (Int64.ofInt 0)) → Q (some (.int (tz64 v3))) (hp p s q I J)))) ∧ (¬ ((Int32.ofInt 60) ≤ v5) → w_X6_ranked_5 SL xs d p s q Q v0 v2 (v3 &&& (v3 - (Int64.ofInt 1))) (v5 + Int32.ofInt 1) I J))))) : w_X6_ranked_5 SL xs d p s q Q v0 v2 v3 v5 I J := by
  unfold w_X6_ranked_5
  refine sp_iload 7 rfl rfl rfl ?_
  refine sp_iload_n 8 rfl rfl rfl ?_
  refine sp_ic_ge 11 rfl rfl (fun q => ?_) (fun q => ?_)
  · have k := k.1 q
    refine sp_lload_n 31 rfl rfl rfl ?_
    refine sp_lconst 32 rfl rfl ?_
    refine sp_J (y := Int64.ofInt 0) rfl ?_
    refine sp_lcmp 33 rfl rfl ?_
    refine sp_if_ne 36 rfl rfl (fun q => ?_) (fun q => ?_)
    · have k := k.2 (fun z => q ((lg_cmp_eq _ _).mpr z))
      refine sp_lload_n 41 rfl rfl rfl ?_
      refine sc_S 44 rfl rfl rfl rfl (Nat.le_refl _) (Nat.le_refl _) rfl ?_
      refine cz_tz64 ?_
      exact st_iret rfl rfl (Nat.le_refl _) (Nat.le_refl _) k
    · have k := k.1 ((lg_cmp_eq _ _).mp q)
      refine sp_iconst 37 rfl rfl ?_
      refine sp_goto rfl ?_
      exact st_iret rfl rfl (Nat.le_refl _) (Nat.le_refl _) k
  · have k := k.2 q
    refine sp_iload 13 rfl rfl rfl ?_
    refine sp_bipush 15 rfl rfl ?_
    refine sp_I (y := Int32.ofInt 60) rfl ?_
    refine sp_ic_ge 18 rfl rfl (fun q => ?_) (fun q => ?_)
    · have k := k.1 q
      refine sp_lload_n 31 rfl rfl rfl ?_
      refine sp_lconst 32 rfl rfl ?_
      refine sp_J (y := Int64.ofInt 0) rfl ?_
      refine sp_lcmp 33 rfl rfl ?_
      refine sp_if_ne 36 rfl rfl (fun q => ?_) (fun q => ?_)
      · have k := k.2 (fun z => q ((lg_cmp_eq _ _).mpr z))
        refine sp_lload_n 41 rfl rfl rfl ?_
        refine sc_S 44 rfl rfl rfl rfl (Nat.le_refl _) (Nat.le_refl _) rfl ?_
        refine cz_tz64 ?_
        exact st_iret rfl rfl (Nat.le_refl _) (Nat.le_refl _) k
      · have k := k.1 ((lg_cmp_eq _ _).mp q)
        refine sp_iconst 37 rfl rfl ?_
        refine sp_goto rfl ?_
        exact st_iret rfl rfl (Nat.le_refl _) (Nat.le_refl _) k
    · have k := k.2 q
      refine sp_lload_n 19 rfl rfl rfl ?_
      refine sp_lload_n 20 rfl rfl rfl ?_
      refine sp_lconst 21 rfl rfl ?_
      refine sp_J (y := Int64.ofInt 1) rfl ?_
      refine sp_lsub 22 rfl rfl ?_
      refine sp_land 23 rfl rfl ?_
      refine sp_lstore_n 24 rfl rfl rfl ?_
      refine sp_iinc 27 rfl rfl rfl rfl ?_
      refine sp_goto rfl ?_
      exact k
theorem sg_X6_countTo {SL : Nat} {xs : Nat → Int32} {d : Nat} {p s q : Nat} {Q : Option Value → mm_H → Prop} {a0 : Int64} {a1 : Int32} {a2 : Int32} {I : Nat → Nat → Int32} {J : Nat → Nat → Int64}  (k : (((sx_J13_bitCount_95d88 a0) = Int32.ofInt 0 → Q (some (.int (Int32.ofInt 0))) (hp p s q I J)) ∧ (¬ ((sx_J13_bitCount_95d88 a0) = Int32.ofInt 0) → (mm_s SL xs (d + 2) 277 [.int ((sx_X6_below a0 a2) - (sx_X6_below a0 a1)), .int (sx_J13_bitCount_95d88 a0)] (hp p s q I J) (fun r_ h_ => ∃ x1 I1 J1, r_ = some (.int x1) ∧ h_ = hp p s q I1 J1 ∧ Q (some (.int (x1 + (Int32.ofInt 1)))) (hp p s q I1 J1)))))) : mm_s SL xs (d + 3) 71 [.long a0, .int a1, .int a2] (hp p s q I J) Q := by
  refine e_X6_countTo rfl ?_
  refine sp_lload_n 1 rfl rfl rfl ?_
  refine sc_S 4 rfl rfl rfl rfl (Nat.le_refl _) (Nat.le_refl _) rfl ?_
  refine cx_J13_bitCount_95d88 ?_
  refine sp_istore 6 rfl rfl rfl ?_
  refine sp_iload 8 rfl rfl rfl ?_
  refine sp_if_ne 11 rfl rfl (fun q => ?_) (fun q => ?_)
  · have k := k.2 q
    refine sp_lload_n 14 rfl rfl rfl ?_
    refine sp_iload_n 15 rfl rfl rfl ?_
    refine sc_S 18 rfl rfl rfl rfl (Nat.le_refl _) (Nat.le_refl _) rfl ?_
    refine cx_X6_below ?_
    refine sp_lload_n 19 rfl rfl rfl ?_
    refine sp_iload_n 20 rfl rfl rfl ?_
    refine sc_S 23 rfl rfl rfl rfl (Nat.le_refl _) (Nat.le_refl _) rfl ?_
    refine cx_X6_below ?_
    refine sp_isub 24 rfl rfl ?_
    refine sp_iload 26 rfl rfl rfl ?_
    refine sc_S 29 rfl rfl rfl rfl (Nat.le_refl _) (Nat.le_refl _) rfl ?_
    refine mm_s_mono _ _ _ _ _ _ ?_ k
    rintro r_ h_ ⟨x1, I1, J1, rfl, rfl, k⟩
    refine sp_iconst 30 rfl rfl ?_
    refine sp_iadd 31 rfl rfl ?_
    exact st_iret rfl rfl (Nat.le_refl _) (Nat.le_refl _) k
  · have k := k.1 q
    refine sp_iconst 12 rfl rfl ?_
    exact st_iret rfl rfl (Nat.le_refl _) (Nat.le_refl _) k
def w_X9_advance_0 (SL : Nat) (xs : Nat → Int32) (d : Nat) (p s q : Nat) (Q : Option Value → mm_H → Prop)  (I : Nat → Nat → Int32) (J : Nat → Nat → Int64) : Prop := mm_w SL xs (mm_s SL xs (d + 2)) mm_am kX9_advance 0 0 none Q 0 [some (.ref 4), none] [] (hp p s q I J) 0 0
theorem sg_X9_advance_0 {SL : Nat} {xs : Nat → Int32} {d : Nat} {p s q : Nat} {Q : Option Value → mm_H → Prop}  {I : Nat → Nat → Int32} {J : Nat → Nat → Int64}  (k : (((I 4 1) ≤ (I 4 7) → (mm_s SL xs (d + 2) 109 [.ref 4, .int (I 4 7)] (hp p s q (mm_u I 4 3 (I 4 7)) J) (fun r_ h_ => ∃ x1 I1 J1, r_ = some (.int x1) ∧ h_ = hp p s q I1 J1 ∧ (((I1 4 7) < (I1 4 1) → (((sx_X9_isLetter x1) = Int32.ofInt 0 → (((sx_X9_isDigit x1) = Int32.ofInt 0 → (((sy_X9_isSign x1 I1 J1) = Int32.ofInt 0 → Q none (hp p s q (mm_u (mm_u I1 4 2 (Int32.ofInt 1)) 4 7 ((I1 4 7) + (Int32.ofInt 1))) J1)) ∧ (¬ ((sy_X9_isSign x1 I1 J1) = Int32.ofInt 0) → Q none (hp p s q (mm_u (mm_u I1 4 2 x1) 4 7 ((I1 4 7) + (Int32.ofInt 1))) J1)))) ∧ (¬ ((sx_X9_isDigit x1) = Int32.ofInt 0) → (mm_s SL xs (d + 2) 107 [.ref 4] (hp p s q I1 J1) (fun r_ h_ => ∃ I2 J2, r_ = none ∧ h_ = hp p s q I2 J2 ∧ Q none (hp p s q I2 J2)))))) ∧ (¬ ((sx_X9_isLetter x1) = Int32.ofInt 0) → (mm_s SL xs (d + 2) 106 [.ref 4] (hp p s q I1 J1) (fun r_ h_ => ∃ I3 J3, r_ = none ∧ h_ = hp p s q I3 J3 ∧ Q none (hp p s q I3 J3)))))) ∧ (¬ ((I1 4 7) < (I1 4 1)) → Q none (hp p s q (mm_u I1 4 2 (Int32.ofInt 0)) J1)))))) ∧ (¬ ((I 4 1) ≤ (I 4 7)) → (mm_s SL xs (d + 2) 109 [.ref 4, .int (I 4 7)] (hp p s q I J) (fun r_ h_ => ∃ x4 I4 J4, r_ = some (.int x4) ∧ h_ = hp p s q I4 J4 ∧ (((sx_X9_isBlank x4) = Int32.ofInt 0 → (mm_s SL xs (d + 2) 109 [.ref 4, .int (I4 4 7)] (hp p s q (mm_u I4 4 3 (I4 4 7)) J4) (fun r_ h_ => ∃ x5 I5 J5, r_ = some (.int x5) ∧ h_ = hp p s q I5 J5 ∧ (((I5 4 7) < (I5 4 1) → (((sx_X9_isLetter x5) = Int32.ofInt 0 → (((sx_X9_isDigit x5) = Int32.ofInt 0 → (((sy_X9_isSign x5 I5 J5) = Int32.ofInt 0 → Q none (hp p s q (mm_u (mm_u I5 4 2 (Int32.ofInt 1)) 4 7 ((I5 4 7) + (Int32.ofInt 1))) J5)) ∧ (¬ ((sy_X9_isSign x5 I5 J5) = Int32.ofInt 0) → Q none (hp p s q (mm_u (mm_u I5 4 2 x5) 4 7 ((I5 4 7) + (Int32.ofInt 1))) J5)))) ∧ (¬ ((sx_X9_isDigit x5) = Int32.ofInt 0) → (mm_s SL xs (d + 2) 107 [.ref 4] (hp p s q I5 J5) (fun r_ h_ => ∃ I6 J6, r_ = none ∧ h_ = hp p s q I6 J6 ∧ Q none (hp p s q I6 J6)))))) ∧ (¬ ((sx_X9_isLetter x5) = Int32.ofInt 0) → (mm_s SL xs (d + 2) 106 [.ref 4] (hp p s q I5 J5) (fun r_ h_ => ∃ I7 J7, r_ = none ∧ h_ = hp p s q I7 J7 ∧ Q none (hp p s q I7 J7)))))) ∧ (¬ ((I5 4 7) < (I5 4 1)) → Q none (hp p s q (mm_u I5 4 2 (Int32.ofInt 0)) J5)))))) ∧ (¬ ((sx_X9_isBlank x4) = Int32.ofInt 0) → w_X9_advance_0 SL xs d p s q Q  (mm_u I4 4 7 ((I4 4 7) + (Int32.ofInt 1))) J4))))))) : w_X9_advance_0 SL xs d p s q Q  I J := by
  unfold w_X9_advance_0
  refine sp_aload_n 1 rfl rfl rfl ?_
  refine hq_getI 4 rfl rfl rfl ?_
  refine sp_aload_n 5 rfl rfl rfl ?_
  refine hq_getI 8 rfl rfl rfl ?_
  refine sp_ic_ge 11 rfl rfl (fun q => ?_) (fun q => ?_)
  · have k := k.1 q
    refine sp_aload_n 39 rfl rfl rfl ?_
    refine sp_aload_n 40 rfl rfl rfl ?_
    refine hq_getI 43 rfl rfl rfl ?_
    refine hq_putI 46 rfl rfl rfl ?_
    refine sp_aload_n 47 rfl rfl rfl ?_
    refine sp_aload_n 48 rfl rfl rfl ?_
    refine hq_getI 51 rfl rfl rfl ?_
    refine sp_I (y := (I 4 7)) (by simp [mm_u]) ?_
    refine sc_V 54 rfl rfl rfl rfl rfl (Nat.le_refl _) (Nat.le_refl _) rfl ?_
    refine mm_s_mono _ _ _ _ _ _ ?_ k
    rintro r_ h_ ⟨x1, I1, J1, rfl, rfl, k⟩
    refine sp_istore_n 55 rfl rfl rfl ?_
    refine sp_aload_n 56 rfl rfl rfl ?_
    refine hq_getI 59 rfl rfl rfl ?_
    refine sp_aload_n 60 rfl rfl rfl ?_
    refine hq_getI 63 rfl rfl rfl ?_
    refine sp_ic_lt 66 rfl rfl (fun q => ?_) (fun q => ?_)
    · have k := k.1 q
      refine sp_iload_n 75 rfl rfl rfl ?_
      refine sc_S 78 rfl rfl rfl rfl (Nat.le_refl _) (Nat.le_refl _) rfl ?_
      refine cx_X9_isLetter ?_
      refine sp_if_eq 81 rfl rfl (fun q => ?_) (fun q => ?_)
      · have k := k.1 q
        refine sp_iload_n 89 rfl rfl rfl ?_
        refine sc_S 92 rfl rfl rfl rfl (Nat.le_refl _) (Nat.le_refl _) rfl ?_
        refine cx_X9_isDigit ?_
        refine sp_if_eq 95 rfl rfl (fun q => ?_) (fun q => ?_)
        · have k := k.1 q
          refine sp_aload_n 103 rfl rfl rfl ?_
          refine sp_iload_n 104 rfl rfl rfl ?_
          refine sc_S 107 rfl rfl rfl rfl (Nat.le_refl _) (Nat.le_refl _) rfl ?_
          refine cy_X9_isSign ?_
          refine sp_if_eq 110 rfl rfl (fun q => ?_) (fun q => ?_)
          · have k := k.1 q
            refine sp_iconst 115 rfl rfl ?_
            refine hq_putI 118 rfl rfl rfl ?_
            refine sp_aload_n 119 rfl rfl rfl ?_
            refine sp_dup 120 rfl rfl rfl ?_
            refine hq_getI 123 rfl rfl rfl ?_
            refine sp_I (y := (I1 4 7)) (by simp [mm_u]) ?_
            refine sp_iconst 124 rfl rfl ?_
            refine sp_iadd 125 rfl rfl ?_
            refine hq_putI 128 rfl rfl rfl ?_
            exact st_vret rfl rfl (Nat.le_refl _) (Nat.le_refl _) k
          · have k := k.2 q
            refine sp_iload_n 111 rfl rfl rfl ?_
            refine sp_goto rfl ?_
            refine hq_putI 118 rfl rfl rfl ?_
            refine sp_aload_n 119 rfl rfl rfl ?_
            refine sp_dup 120 rfl rfl rfl ?_
            refine hq_getI 123 rfl rfl rfl ?_
            refine sp_I (y := (I1 4 7)) (by simp [mm_u]) ?_
            refine sp_iconst 124 rfl rfl ?_
            refine sp_iadd 125 rfl rfl ?_
            refine hq_putI 128 rfl rfl rfl ?_
            exact st_vret rfl rfl (Nat.le_refl _) (Nat.le_refl _) k
        · have k := k.2 q
          refine sp_aload_n 96 rfl rfl rfl ?_
          refine sc_V 99 rfl rfl rfl rfl rfl (Nat.le_refl _) (Nat.le_refl _) rfl ?_
          refine mm_s_mono _ _ _ _ _ _ ?_ k
          rintro r_ h_ ⟨I2, J2, rfl, rfl, k⟩
          refine sp_goto rfl ?_
          exact st_vret rfl rfl (Nat.le_refl _) (Nat.le_refl _) k
      · have k := k.2 q
        refine sp_aload_n 82 rfl rfl rfl ?_
        refine sc_V 85 rfl rfl rfl rfl rfl (Nat.le_refl _) (Nat.le_refl _) rfl ?_
        refine mm_s_mono _ _ _ _ _ _ ?_ k
        rintro r_ h_ ⟨I3, J3, rfl, rfl, k⟩
        refine sp_goto rfl ?_
        exact st_vret rfl rfl (Nat.le_refl _) (Nat.le_refl _) k
    · have k := k.2 q
      refine sp_aload_n 67 rfl rfl rfl ?_
      refine sp_iconst 68 rfl rfl ?_
      refine hq_putI 71 rfl rfl rfl ?_
      refine sp_goto rfl ?_
      exact st_vret rfl rfl (Nat.le_refl _) (Nat.le_refl _) k
  · have k := k.2 q
    refine sp_aload_n 12 rfl rfl rfl ?_
    refine sp_aload_n 13 rfl rfl rfl ?_
    refine hq_getI 16 rfl rfl rfl ?_
    refine sc_V 19 rfl rfl rfl rfl rfl (Nat.le_refl _) (Nat.le_refl _) rfl ?_
    refine mm_s_mono _ _ _ _ _ _ ?_ k
    rintro r_ h_ ⟨x4, I4, J4, rfl, rfl, k⟩
    refine sc_S 22 rfl rfl rfl rfl (Nat.le_refl _) (Nat.le_refl _) rfl ?_
    refine cx_X9_isBlank ?_
    refine sp_if_eq 25 rfl rfl (fun q => ?_) (fun q => ?_)
    · have k := k.1 q
      refine sp_aload_n 39 rfl rfl rfl ?_
      refine sp_aload_n 40 rfl rfl rfl ?_
      refine hq_getI 43 rfl rfl rfl ?_
      refine hq_putI 46 rfl rfl rfl ?_
      refine sp_aload_n 47 rfl rfl rfl ?_
      refine sp_aload_n 48 rfl rfl rfl ?_
      refine hq_getI 51 rfl rfl rfl ?_
      refine sp_I (y := (I4 4 7)) (by simp [mm_u]) ?_
      refine sc_V 54 rfl rfl rfl rfl rfl (Nat.le_refl _) (Nat.le_refl _) rfl ?_
      refine mm_s_mono _ _ _ _ _ _ ?_ k
      rintro r_ h_ ⟨x5, I5, J5, rfl, rfl, k⟩
      refine sp_istore_n 55 rfl rfl rfl ?_
      refine sp_aload_n 56 rfl rfl rfl ?_
      refine hq_getI 59 rfl rfl rfl ?_
      refine sp_aload_n 60 rfl rfl rfl ?_
      refine hq_getI 63 rfl rfl rfl ?_
      refine sp_ic_lt 66 rfl rfl (fun q => ?_) (fun q => ?_)
      · have k := k.1 q
        refine sp_iload_n 75 rfl rfl rfl ?_
        refine sc_S 78 rfl rfl rfl rfl (Nat.le_refl _) (Nat.le_refl _) rfl ?_
        refine cx_X9_isLetter ?_
        refine sp_if_eq 81 rfl rfl (fun q => ?_) (fun q => ?_)
        · have k := k.1 q
          refine sp_iload_n 89 rfl rfl rfl ?_
          refine sc_S 92 rfl rfl rfl rfl (Nat.le_refl _) (Nat.le_refl _) rfl ?_
          refine cx_X9_isDigit ?_
          refine sp_if_eq 95 rfl rfl (fun q => ?_) (fun q => ?_)
          · have k := k.1 q
            refine sp_aload_n 103 rfl rfl rfl ?_
            refine sp_iload_n 104 rfl rfl rfl ?_
            refine sc_S 107 rfl rfl rfl rfl (Nat.le_refl _) (Nat.le_refl _) rfl ?_
            refine cy_X9_isSign ?_
            refine sp_if_eq 110 rfl rfl (fun q => ?_) (fun q => ?_)
            · have k := k.1 q
              refine sp_iconst 115 rfl rfl ?_
              refine hq_putI 118 rfl rfl rfl ?_
              refine sp_aload_n 119 rfl rfl rfl ?_
              refine sp_dup 120 rfl rfl rfl ?_
              refine hq_getI 123 rfl rfl rfl ?_
              refine sp_I (y := (I5 4 7)) (by simp [mm_u]) ?_
              refine sp_iconst 124 rfl rfl ?_
              refine sp_iadd 125 rfl rfl ?_
              refine hq_putI 128 rfl rfl rfl ?_
              exact st_vret rfl rfl (Nat.le_refl _) (Nat.le_refl _) k
            · have k := k.2 q
              refine sp_iload_n 111 rfl rfl rfl ?_
              refine sp_goto rfl ?_
              refine hq_putI 118 rfl rfl rfl ?_
              refine sp_aload_n 119 rfl rfl rfl ?_
              refine sp_dup 120 rfl rfl rfl ?_
              refine hq_getI 123 rfl rfl rfl ?_
              refine sp_I (y := (I5 4 7)) (by simp [mm_u]) ?_
              refine sp_iconst 124 rfl rfl ?_
              refine sp_iadd 125 rfl rfl ?_
              refine hq_putI 128 rfl rfl rfl ?_
              exact st_vret rfl rfl (Nat.le_refl _) (Nat.le_refl _) k
          · have k := k.2 q
            refine sp_aload_n 96 rfl rfl rfl ?_
            refine sc_V 99 rfl rfl rfl rfl rfl (Nat.le_refl _) (Nat.le_refl _) rfl ?_
            refine mm_s_mono _ _ _ _ _ _ ?_ k
            rintro r_ h_ ⟨I6, J6, rfl, rfl, k⟩
            refine sp_goto rfl ?_
            exact st_vret rfl rfl (Nat.le_refl _) (Nat.le_refl _) k
        · have k := k.2 q
          refine sp_aload_n 82 rfl rfl rfl ?_
          refine sc_V 85 rfl rfl rfl rfl rfl (Nat.le_refl _) (Nat.le_refl _) rfl ?_
          refine mm_s_mono _ _ _ _ _ _ ?_ k
          rintro r_ h_ ⟨I7, J7, rfl, rfl, k⟩
          refine sp_goto rfl ?_
          exact st_vret rfl rfl (Nat.le_refl _) (Nat.le_refl _) k
      · have k := k.2 q
        refine sp_aload_n 67 rfl rfl rfl ?_
        refine sp_iconst 68 rfl rfl ?_
        refine hq_putI 71 rfl rfl rfl ?_
        refine sp_goto rfl ?_
        exact st_vret rfl rfl (Nat.le_refl _) (Nat.le_refl _) k
    · have k := k.2 q
      refine sp_aload_n 26 rfl rfl rfl ?_
      refine sp_dup 27 rfl rfl rfl ?_
      refine hq_getI 30 rfl rfl rfl ?_
      refine sp_iconst 31 rfl rfl ?_
      refine sp_iadd 32 rfl rfl ?_
      refine hq_putI 35 rfl rfl rfl ?_
      refine sp_goto rfl ?_
      exact k
def w_X2_chosenBy_12 (SL : Nat) (xs : Nat → Int32) (d : Nat) (p s q : Nat) (Q : Option Value → mm_H → Prop) (v1 : Int32) (a1 : Nat) (v3 : Int32) (v4 : Int64) (v6 : Int32) (I : Nat → Nat → Int32) (J : Nat → Nat → Int64) : Prop := mm_w SL xs (mm_s SL xs (d + 3)) mm_am kX2_chosenBy 0 0 (some .int) Q 12 [some (.ref 31), some (.int v1), some (.ref a1), some (.int v3), some (.long v4), none, some (.int v6)] [] (hp p s q I J) 0 0
theorem sg_X2_chosenBy {SL : Nat} {xs : Nat → Int32} {d : Nat} {p s q : Nat} {Q : Option Value → mm_H → Prop} {a0 : Int32} {a1 : Nat} {a2 : Int32} {I : Nat → Nat → Int32} {J : Nat → Nat → Int64}  (k : (mm_s SL xs (d + 3) 28 [.ref 31, .int a0, .ref a1] (hp p s q I J) (fun r_ h_ => ∃ I1 J1, r_ = none ∧ h_ = hp p s q I1 J1 ∧ w_X2_chosenBy_12 SL xs d p s q Q a0 a1 a2 (Int64.ofInt 0) (Int32.ofInt 0) I1 J1))) : mm_s SL xs (d + 4) 31 [.ref 31, .int a0, .ref a1, .int a2] (hp p s q I J) Q := by
  refine e_X2_chosenBy rfl ?_
  refine sp_aload_n 1 rfl rfl rfl ?_
  refine sp_iload_n 2 rfl rfl rfl ?_
  refine sp_aload_n 3 rfl rfl rfl ?_
  refine sc_V 6 rfl rfl rfl rfl rfl (Nat.le_refl _) (Nat.le_refl _) rfl ?_
  refine mm_s_mono _ _ _ _ _ _ ?_ k
  rintro r_ h_ ⟨I1, J1, rfl, rfl, k⟩
  refine sp_lconst 7 rfl rfl ?_
  refine sp_J (y := Int64.ofInt 0) rfl ?_
  refine sp_lstore 9 rfl rfl rfl ?_
  refine sp_iconst 10 rfl rfl ?_
  refine sp_istore 12 rfl rfl rfl ?_
  exact k
theorem sg_X2_chosenBy_12 {SL : Nat} {xs : Nat → Int32} {d : Nat} {p s q : Nat} {Q : Option Value → mm_H → Prop} {v1 : Int32} {a1 : Nat} {v3 : Int32} {v4 : Int64} {v6 : Int32} {I : Nat → Nat → Int32} {J : Nat → Nat → Int64}  (k : ((v3 ≤ v6 → (mm_s SL xs (d + 3) 30 [.ref 31, .int v1, .long v4] (hp p s q I J) (fun r_ h_ => ∃ x1 I1 J1, r_ = some (.int x1) ∧ h_ = hp p s q I1 J1 ∧ Q (some (.int x1)) (hp p s q I1 J1)))) ∧ (¬ (v3 ≤ v6) → (((Int32.ofInt 9) ≤ v6 → (mm_s SL xs (d + 3) 30 [.ref 31, .int v1, .long v4] (hp p s q I J) (fun r_ h_ => ∃ x2 I2 J2, r_ = some (.int x2) ∧ h_ = hp p s q I2 J2 ∧ Q (some (.int x2)) (hp p s q I2 J2)))) ∧ (¬ ((Int32.ofInt 9) ≤ v6) → (mm_s SL xs (d + 3) 30 [.ref 31, .int v1, .long v4] (hp p s q I J) (fun r_ h_ => ∃ x3 I3 J3, r_ = some (.int x3) ∧ h_ = hp p s q I3 J3 ∧ w_X2_chosenBy_12 SL xs d p s q Q v1 a1 v3 (v4 ||| (sx_X6_bit x3)) (v6 + Int32.ofInt 1) I3 J3))))))) : w_X2_chosenBy_12 SL xs d p s q Q v1 a1 v3 v4 v6 I J := by
  unfold w_X2_chosenBy_12
  refine sp_iload 14 rfl rfl rfl ?_
  refine sp_iload_n 15 rfl rfl rfl ?_
  refine sp_ic_ge 18 rfl rfl (fun q => ?_) (fun q => ?_)
  · have k := k.1 q
    refine sp_aload_n 47 rfl rfl rfl ?_
    refine sp_iload_n 48 rfl rfl rfl ?_
    refine sp_lload 50 rfl rfl rfl ?_
    refine sc_V 53 rfl rfl rfl rfl rfl (Nat.le_refl _) (Nat.le_refl _) rfl ?_
    refine mm_s_mono _ _ _ _ _ _ ?_ k
    rintro r_ h_ ⟨x1, I1, J1, rfl, rfl, k⟩
    exact st_iret rfl rfl (Nat.le_refl _) (Nat.le_refl _) k
  · have k := k.2 q
    refine sp_iload 20 rfl rfl rfl ?_
    refine sp_bipush 22 rfl rfl ?_
    refine sp_I (y := Int32.ofInt 9) rfl ?_
    refine sp_ic_ge 25 rfl rfl (fun q => ?_) (fun q => ?_)
    · have k := k.1 q
      refine sp_aload_n 47 rfl rfl rfl ?_
      refine sp_iload_n 48 rfl rfl rfl ?_
      refine sp_lload 50 rfl rfl rfl ?_
      refine sc_V 53 rfl rfl rfl rfl rfl (Nat.le_refl _) (Nat.le_refl _) rfl ?_
      refine mm_s_mono _ _ _ _ _ _ ?_ k
      rintro r_ h_ ⟨x2, I2, J2, rfl, rfl, k⟩
      exact st_iret rfl rfl (Nat.le_refl _) (Nat.le_refl _) k
    · have k := k.2 q
      refine sp_lload 27 rfl rfl rfl ?_
      refine sp_aload_n 28 rfl rfl rfl ?_
      refine sp_iload_n 29 rfl rfl rfl ?_
      refine sp_lload 31 rfl rfl rfl ?_
      refine sc_V 34 rfl rfl rfl rfl rfl (Nat.le_refl _) (Nat.le_refl _) rfl ?_
      refine mm_s_mono _ _ _ _ _ _ ?_ k
      rintro r_ h_ ⟨x3, I3, J3, rfl, rfl, k⟩
      refine sc_S 37 rfl rfl rfl rfl (Nat.le_refl _) (Nat.le_refl _) rfl ?_
      refine cx_X6_bit ?_
      refine sp_lor 38 rfl rfl ?_
      refine sp_lstore 40 rfl rfl rfl ?_
      refine sp_iinc 43 rfl rfl rfl rfl ?_
      refine sp_goto rfl ?_
      exact k
def w_X3_leastNumber_28 (SL : Nat) (xs : Nat → Int32) (d : Nat) (p s q : Nat) (Q : Option Value → mm_H → Prop) (v1 : Int32) (v2 : Int64) (v4 : Int64) (v6 : Int64) (v8 : Int32) (v9 : Int32) (I : Nat → Nat → Int32) (J : Nat → Nat → Int64) : Prop := mm_w SL xs (mm_s SL xs (d + 3)) mm_am kX3_leastNumber 0 0 (some .long) Q 28 [some (.ref 29), some (.int v1), some (.long v2), none, some (.long v4), none, some (.long v6), none, some (.int v8), some (.int v9), none, none, none] [] (hp p s q I J) 0 0
theorem sg_X3_leastNumber {SL : Nat} {xs : Nat → Int32} {d : Nat} {p s q : Nat} {Q : Option Value → mm_H → Prop} {a0 : Int32} {I : Nat → Nat → Int32} {J : Nat → Nat → Int64}  (k : (((I 29 1) = Int32.ofInt 0 → Q (some (.long (Int64.ofInt (-1)))) (hp p s q I J)) ∧ (¬ ((I 29 1) = Int32.ofInt 0) → w_X3_leastNumber_28 SL xs d p s q Q a0 (sx_X6_all a0) (Int64.ofInt 0) (Int64.ofInt 1) (Int32.ofInt 0) (Int32.ofInt 0) I J))) : mm_s SL xs (d + 4) 35 [.ref 29, .int a0] (hp p s q I J) Q := by
  refine e_X3_leastNumber rfl ?_
  refine sp_aload_n 1 rfl rfl rfl ?_
  refine hq_getI 4 rfl rfl rfl ?_
  refine sp_if_ne 7 rfl rfl (fun q => ?_) (fun q => ?_)
  · have k := k.2 q
    refine sp_iload_n 12 rfl rfl rfl ?_
    refine sc_S 15 rfl rfl rfl rfl (Nat.le_refl _) (Nat.le_refl _) rfl ?_
    refine cx_X6_all ?_
    refine sp_lstore_n 16 rfl rfl rfl ?_
    refine sp_lconst 17 rfl rfl ?_
    refine sp_J (y := Int64.ofInt 0) rfl ?_
    refine sp_lstore 19 rfl rfl rfl ?_
    refine sp_lconst 20 rfl rfl ?_
    refine sp_J (y := Int64.ofInt 1) rfl ?_
    refine sp_lstore 22 rfl rfl rfl ?_
    refine sp_iconst 23 rfl rfl ?_
    refine sp_istore 25 rfl rfl rfl ?_
    refine sp_iconst 26 rfl rfl ?_
    refine sp_istore 28 rfl rfl rfl ?_
    exact k
  · have k := k.1 q
    refine sp_ldc2 10 rfl rfl ?_
    exact st_lret rfl rfl (Nat.le_refl _) (Nat.le_refl _) k
theorem sg_X3_leastNumber_28 {SL : Nat} {xs : Nat → Int32} {d : Nat} {p s q : Nat} {Q : Option Value → mm_H → Prop} {v1 : Int32} {v2 : Int64} {v4 : Int64} {v6 : Int64} {v8 : Int32} {v9 : Int32} {I : Nat → Nat → Int32} {J : Nat → Nat → Int64}  (k : (((I 29 1) ≤ v9 → ((v4 = (Int64.ofInt 0) → Q (some (.long v6)) (hp p s q I J)) ∧ (¬ (v4 = (Int64.ofInt 0)) → Q (some (.long v4)) (hp p s q I J)))) ∧ (¬ ((I 29 1) ≤ v9) → (((Int32.ofInt 8) ≤ v9 → ((v4 = (Int64.ofInt 0) → Q (some (.long v6)) (hp p s q I J)) ∧ (¬ (v4 = (Int64.ofInt 0)) → Q (some (.long v4)) (hp p s q I J)))) ∧ (¬ ((Int32.ofInt 8) ≤ v9) → (vp_in v9 60 ∧ (((v1 - v9) < (Int32.ofInt 1) → Q (some (.long (Int64.ofInt (-1)))) (hp p s q I J)) ∧ (¬ ((v1 - v9) < (Int32.ofInt 1)) → (((sx_X6_has v2 (I 30 ((v9).toNatClampNeg))) = Int32.ofInt 0 → Q (some (.long (Int64.ofInt (-1)))) (hp p s q I J)) ∧ (¬ ((sx_X6_has v2 (I 30 ((v9).toNatClampNeg))) = Int32.ofInt 0) → (mm_s SL xs (d + 3) 71 [.long v2, .int v8, .int (I 30 ((v9).toNatClampNeg))] (hp p s q I J) (fun r_ h_ => ∃ x1 I1 J1, r_ = some (.int x1) ∧ h_ = hp p s q I1 J1 ∧ (¬ (v1 - v9) = 0 ∧ (mm_s SL xs (d + 3) 36 [.long v4, .long v6, .int (x1 - x1 / (v1 - v9) * (v1 - v9)), .int (v1 - v9)] (hp p s q I1 J1) (fun r_ h_ => ∃ x2 I2 J2, r_ = some (.long x2) ∧ h_ = hp p s q I2 J2 ∧ (((Int64.ofInt 0) ≤ x2 → (mm_s SL xs (d + 3) 37 [.long v6, .int (v1 - v9)] (hp p s q I2 J2) (fun r_ h_ => ∃ x3 I3 J3, r_ = some (.long x3) ∧ h_ = hp p s q I3 J3 ∧ w_X3_leastNumber_28 SL xs d p s q Q v1 (v2 &&& ((sx_X6_bit (I 30 ((v9).toNatClampNeg))) ^^^ (Int64.ofInt (-1)))) x2 x3 (sx_X6_next (I 30 ((v9).toNatClampNeg)) v1 (Int32.ofInt 1)) (v9 + Int32.ofInt 1) I3 J3))) ∧ (¬ ((Int64.ofInt 0) ≤ x2) → Q (some (.long (Int64.ofInt (-1)))) (hp p s q I2 J2)))))))))))))))))) : w_X3_leastNumber_28 SL xs d p s q Q v1 v2 v4 v6 v8 v9 I J := by
  unfold w_X3_leastNumber_28
  refine sp_iload 30 rfl rfl rfl ?_
  refine sp_aload_n 31 rfl rfl rfl ?_
  refine hq_getI 34 rfl rfl rfl ?_
  refine sp_ic_ge 37 rfl rfl (fun q => ?_) (fun q => ?_)
  · have k := k.1 q
    refine sp_lload 153 rfl rfl rfl ?_
    refine sp_lconst 154 rfl rfl ?_
    refine sp_J (y := Int64.ofInt 0) rfl ?_
    refine sp_lcmp 155 rfl rfl ?_
    refine sp_if_ne 158 rfl rfl (fun q => ?_) (fun q => ?_)
    · have k := k.2 (fun z => q ((lg_cmp_eq _ _).mpr z))
      refine sp_lload 165 rfl rfl rfl ?_
      exact st_lret rfl rfl (Nat.le_refl _) (Nat.le_refl _) k
    · have k := k.1 ((lg_cmp_eq _ _).mp q)
      refine sp_lload 160 rfl rfl rfl ?_
      refine sp_goto rfl ?_
      exact st_lret rfl rfl (Nat.le_refl _) (Nat.le_refl _) k
  · have k := k.2 q
    refine sp_iload 39 rfl rfl rfl ?_
    refine sp_bipush 41 rfl rfl ?_
    refine sp_I (y := Int32.ofInt 8) rfl ?_
    refine sp_ic_ge 44 rfl rfl (fun q => ?_) (fun q => ?_)
    · have k := k.1 q
      refine sp_lload 153 rfl rfl rfl ?_
      refine sp_lconst 154 rfl rfl ?_
      refine sp_J (y := Int64.ofInt 0) rfl ?_
      refine sp_lcmp 155 rfl rfl ?_
      refine sp_if_ne 158 rfl rfl (fun q => ?_) (fun q => ?_)
      · have k := k.2 (fun z => q ((lg_cmp_eq _ _).mpr z))
        refine sp_lload 165 rfl rfl rfl ?_
        exact st_lret rfl rfl (Nat.le_refl _) (Nat.le_refl _) k
      · have k := k.1 ((lg_cmp_eq _ _).mp q)
        refine sp_lload 160 rfl rfl rfl ?_
        refine sp_goto rfl ?_
        exact st_lret rfl rfl (Nat.le_refl _) (Nat.le_refl _) k
    · have k := k.2 q
      refine sp_aload_n 45 rfl rfl rfl ?_
      refine hq_getR 48 rfl rfl rfl rfl ?_
      refine sp_iload 50 rfl rfl rfl ?_
      have n1_ := k.1
      have k := k.2
      refine hq_iald 51 rfl rfl n1_ rfl ?_
      refine sp_istore 53 rfl rfl rfl ?_
      refine sp_iload_n 54 rfl rfl rfl ?_
      refine sp_iload 56 rfl rfl rfl ?_
      refine sp_isub 57 rfl rfl ?_
      refine sp_istore 59 rfl rfl rfl ?_
      refine sp_iload 61 rfl rfl rfl ?_
      refine sp_iconst 62 rfl rfl ?_
      refine sp_ic_lt 65 rfl rfl (fun q => ?_) (fun q => ?_)
      · have k := k.1 q
        refine sp_ldc2 77 rfl rfl ?_
        exact st_lret rfl rfl (Nat.le_refl _) (Nat.le_refl _) k
      · have k := k.2 q
        refine sp_lload_n 66 rfl rfl rfl ?_
        refine sp_iload 68 rfl rfl rfl ?_
        refine sc_S 71 rfl rfl rfl rfl (Nat.le_refl _) (Nat.le_refl _) rfl ?_
        refine cx_X6_has ?_
        refine sp_if_ne 74 rfl rfl (fun q => ?_) (fun q => ?_)
        · have k := k.2 q
          refine sp_lload_n 79 rfl rfl rfl ?_
          refine sp_iload 81 rfl rfl rfl ?_
          refine sp_iload 83 rfl rfl rfl ?_
          refine sc_S 86 rfl rfl rfl rfl (Nat.le_refl _) (Nat.le_refl _) rfl ?_
          refine mm_s_mono _ _ _ _ _ _ ?_ k
          rintro r_ h_ ⟨x1, I1, J1, rfl, rfl, k⟩
          refine sp_iload 88 rfl rfl rfl ?_
          have n2_ := k.1
          have k := k.2
          refine sp_irem 89 rfl n2_ rfl ?_
          refine sp_istore 91 rfl rfl rfl ?_
          refine sp_lload 93 rfl rfl rfl ?_
          refine sp_lload 95 rfl rfl rfl ?_
          refine sp_iload 97 rfl rfl rfl ?_
          refine sp_iload 99 rfl rfl rfl ?_
          refine sc_S 102 rfl rfl rfl rfl (Nat.le_refl _) (Nat.le_refl _) rfl ?_
          refine mm_s_mono _ _ _ _ _ _ ?_ k
          rintro r_ h_ ⟨x2, I2, J2, rfl, rfl, k⟩
          refine sp_lstore 104 rfl rfl rfl ?_
          refine sp_lload 106 rfl rfl rfl ?_
          refine sp_lconst 107 rfl rfl ?_
          refine sp_J (y := Int64.ofInt 0) rfl ?_
          refine sp_lcmp 108 rfl rfl ?_
          refine sp_if_ge 111 rfl rfl (fun q => ?_) (fun q => ?_)
          · have k := k.1 ((lg_cmp_ge _ _).mp q)
            refine sp_lload 117 rfl rfl rfl ?_
            refine sp_iload 119 rfl rfl rfl ?_
            refine sc_S 122 rfl rfl rfl rfl (Nat.le_refl _) (Nat.le_refl _) rfl ?_
            refine mm_s_mono _ _ _ _ _ _ ?_ k
            rintro r_ h_ ⟨x3, I3, J3, rfl, rfl, k⟩
            refine sp_lstore 124 rfl rfl rfl ?_
            refine sp_lload_n 125 rfl rfl rfl ?_
            refine sp_iload 127 rfl rfl rfl ?_
            refine sc_S 130 rfl rfl rfl rfl (Nat.le_refl _) (Nat.le_refl _) rfl ?_
            refine cx_X6_bit ?_
            refine sp_ldc2 133 rfl rfl ?_
            refine sp_lxor 134 rfl rfl ?_
            refine sp_land 135 rfl rfl ?_
            refine sp_lstore_n 136 rfl rfl rfl ?_
            refine sp_iload 138 rfl rfl rfl ?_
            refine sp_iload_n 139 rfl rfl rfl ?_
            refine sp_iconst 140 rfl rfl ?_
            refine sc_S 143 rfl rfl rfl rfl (Nat.le_refl _) (Nat.le_refl _) rfl ?_
            refine cx_X6_next ?_
            refine sp_istore 145 rfl rfl rfl ?_
            refine sp_iinc 148 rfl rfl rfl rfl ?_
            refine sp_goto rfl ?_
            refine st_wk (L1 := [some (.ref 29), some (.int v1), some (.long (v2 &&& ((sx_X6_bit (I 30 ((v9).toNatClampNeg))) ^^^ (Int64.ofInt (-1))))), none, some (.long x2), none, some (.long x3), none, some (.int (sx_X6_next (I 30 ((v9).toNatClampNeg)) v1 (Int32.ofInt 1))), some (.int (v9 + Int32.ofInt 1)), none, none, none]) ⟨.inr rfl, .inr rfl, .inr rfl, .inl rfl, .inr rfl, .inl rfl, .inr rfl, .inl rfl, .inr rfl, .inr rfl, .inl rfl, .inl rfl, .inl rfl, trivial⟩ ?_
            exact k
          · have k := k.2 (fun z => q ((lg_cmp_ge _ _).mpr z))
            refine sp_ldc2 114 rfl rfl ?_
            exact st_lret rfl rfl (Nat.le_refl _) (Nat.le_refl _) k
        · have k := k.1 q
          refine sp_ldc2 77 rfl rfl ?_
          exact st_lret rfl rfl (Nat.le_refl _) (Nat.le_refl _) k
def w_X4_sends_12 (SL : Nat) (xs : Nat → Int32) (d : Nat) (p s q : Nat) (Q : Option Value → mm_H → Prop) (v0 : Int32) (v1 : Int32) (v2 : Int64) (v4 : Int32) (v5 : Int64) (v7 : Int32) (v8 : Int32) (I : Nat → Nat → Int32) (J : Nat → Nat → Int64) : Prop := mm_w SL xs (mm_s SL xs (d + 3)) mm_am kX4_sends 0 0 (some .boolean) Q 12 [some (.int v0), some (.int v1), some (.long v2), none, some (.int v4), some (.long v5), none, some (.int v7), some (.int v8), none] [] (hp p s q I J) 0 0
theorem sg_X4_sends {SL : Nat} {xs : Nat → Int32} {d : Nat} {p s q : Nat} {Q : Option Value → mm_H → Prop} {a0 : Int32} {a1 : Int32} {a2 : Int64} {a3 : Int32} {I : Nat → Nat → Int32} {J : Nat → Nat → Int64}  (k : w_X4_sends_12 SL xs d p s q Q a0 a1 a2 a3 (sx_X6_all a0) (Int32.ofInt 0) (Int32.ofInt 0) I J) : mm_s SL xs (d + 4) 45 [.int a0, .int a1, .long a2, .int a3] (hp p s q I J) Q := by
  refine e_X4_sends rfl ?_
  refine sp_iload_n 1 rfl rfl rfl ?_
  refine sc_S 4 rfl rfl rfl rfl (Nat.le_refl _) (Nat.le_refl _) rfl ?_
  refine cx_X6_all ?_
  refine sp_lstore 6 rfl rfl rfl ?_
  refine sp_iconst 7 rfl rfl ?_
  refine sp_istore 9 rfl rfl rfl ?_
  refine sp_iconst 10 rfl rfl ?_
  refine sp_istore 12 rfl rfl rfl ?_
  exact k
theorem sg_X4_sends_12 {SL : Nat} {xs : Nat → Int32} {d : Nat} {p s q : Nat} {Q : Option Value → mm_H → Prop} {v0 : Int32} {v1 : Int32} {v2 : Int64} {v4 : Int32} {v5 : Int64} {v7 : Int32} {v8 : Int32} {I : Nat → Nat → Int32} {J : Nat → Nat → Int64}  (k : ((v4 ≤ v8 → Q (some (.int (Int32.ofInt 1))) (hp p s q I J)) ∧ (¬ (v4 ≤ v8) → ((v0 ≤ v8 → Q (some (.int (Int32.ofInt 1))) (hp p s q I J)) ∧ (¬ (v0 ≤ v8) → (¬ (v0 - v8) = 0 ∧ (mm_s SL xs (d + 3) 69 [.long v5, .int (((v7 + v1) - (Int32.ofInt 1)) - ((v7 + v1) - (Int32.ofInt 1)) / (v0 - v8) * (v0 - v8))] (hp p s q I J) (fun r_ h_ => ∃ x1 I1 J1, r_ = some (.int x1) ∧ h_ = hp p s q I1 J1 ∧ (((sx_X6_has v2 x1) = Int32.ofInt 0 → Q (some (.int (Int32.ofInt 0))) (hp p s q I1 J1)) ∧ (¬ ((sx_X6_has v2 x1) = Int32.ofInt 0) → w_X4_sends_12 SL xs d p s q Q v0 v1 v2 v4 (v5 &&& ((sx_X6_bit x1) ^^^ (Int64.ofInt (-1)))) (((v7 + v1) - (Int32.ofInt 1)) - ((v7 + v1) - (Int32.ofInt 1)) / (v0 - v8) * (v0 - v8)) (v8 + Int32.ofInt 1) I1 J1)))))))))) : w_X4_sends_12 SL xs d p s q Q v0 v1 v2 v4 v5 v7 v8 I J := by
  unfold w_X4_sends_12
  refine sp_iload 14 rfl rfl rfl ?_
  refine sp_iload 16 rfl rfl rfl ?_
  refine sp_ic_ge 19 rfl rfl (fun q => ?_) (fun q => ?_)
  · have k := k.1 q
    refine sp_iconst 79 rfl rfl ?_
    exact st_zret rfl rfl (by decide) (Nat.le_refl _) (Nat.le_refl _) k
  · have k := k.2 q
    refine sp_iload 21 rfl rfl rfl ?_
    refine sp_iload_n 22 rfl rfl rfl ?_
    refine sp_ic_ge 25 rfl rfl (fun q => ?_) (fun q => ?_)
    · have k := k.1 q
      refine sp_iconst 79 rfl rfl ?_
      exact st_zret rfl rfl (by decide) (Nat.le_refl _) (Nat.le_refl _) k
    · have k := k.2 q
      refine sp_iload 27 rfl rfl rfl ?_
      refine sp_iload_n 28 rfl rfl rfl ?_
      refine sp_iadd 29 rfl rfl ?_
      refine sp_iconst 30 rfl rfl ?_
      refine sp_isub 31 rfl rfl ?_
      refine sp_iload_n 32 rfl rfl rfl ?_
      refine sp_iload 34 rfl rfl rfl ?_
      refine sp_isub 35 rfl rfl ?_
      have n1_ := k.1
      have k := k.2
      refine sp_irem 36 rfl n1_ rfl ?_
      refine sp_istore 38 rfl rfl rfl ?_
      refine sp_lload 40 rfl rfl rfl ?_
      refine sp_iload 42 rfl rfl rfl ?_
      refine sc_S 45 rfl rfl rfl rfl (Nat.le_refl _) (Nat.le_refl _) rfl ?_
      refine mm_s_mono _ _ _ _ _ _ ?_ k
      rintro r_ h_ ⟨x1, I1, J1, rfl, rfl, k⟩
      refine sp_istore 47 rfl rfl rfl ?_
      refine sp_lload_n 48 rfl rfl rfl ?_
      refine sp_iload 50 rfl rfl rfl ?_
      refine sc_S 53 rfl rfl rfl rfl (Nat.le_refl _) (Nat.le_refl _) rfl ?_
      refine cx_X6_has ?_
      refine sp_if_ne 56 rfl rfl (fun q => ?_) (fun q => ?_)
      · have k := k.2 q
        refine sp_lload 60 rfl rfl rfl ?_
        refine sp_iload 62 rfl rfl rfl ?_
        refine sc_S 65 rfl rfl rfl rfl (Nat.le_refl _) (Nat.le_refl _) rfl ?_
        refine cx_X6_bit ?_
        refine sp_ldc2 68 rfl rfl ?_
        refine sp_lxor 69 rfl rfl ?_
        refine sp_land 70 rfl rfl ?_
        refine sp_lstore 72 rfl rfl rfl ?_
        refine sp_iinc 75 rfl rfl rfl rfl ?_
        refine sp_goto rfl ?_
        refine st_wk (L1 := [some (.int v0), some (.int v1), some (.long v2), none, some (.int v4), some (.long (v5 &&& ((sx_X6_bit x1) ^^^ (Int64.ofInt (-1))))), none, some (.int (((v7 + v1) - (Int32.ofInt 1)) - ((v7 + v1) - (Int32.ofInt 1)) / (v0 - v8) * (v0 - v8))), some (.int (v8 + Int32.ofInt 1)), none]) ⟨.inr rfl, .inr rfl, .inr rfl, .inl rfl, .inr rfl, .inr rfl, .inl rfl, .inr rfl, .inr rfl, .inl rfl, trivial⟩ ?_
        exact k
      · have k := k.1 q
        refine sp_iconst 57 rfl rfl ?_
        exact st_zret rfl rfl (by decide) (Nat.le_refl _) (Nat.le_refl _) k
theorem sg_X6_counted {SL : Nat} {xs : Nat → Int32} {d : Nat} {p s q : Nat} {Q : Option Value → mm_H → Prop} {a0 : Int64} {a1 : Int32} {a2 : Int32} {a3 : Int32} {I : Nat → Nat → Int32} {J : Nat → Nat → Int64}  (k : (((sx_J13_bitCount_95d88 a0) = Int32.ofInt 0 → Q (some (.int (Int32.ofInt (-1)))) (hp p s q I J)) ∧ (¬ ((sx_J13_bitCount_95d88 a0) = Int32.ofInt 0) → (¬ (sx_J13_bitCount_95d88 a0) = 0 ∧ ((a2 = Int32.ofInt 0 → (mm_s SL xs (d + 3) 277 [.int (((sx_X6_below a0 (a1 + (Int32.ofInt 1))) - (Int32.ofInt 1)) - ((a3 - (Int32.ofInt 1)) - (a3 - (Int32.ofInt 1)) / (sx_J13_bitCount_95d88 a0) * (sx_J13_bitCount_95d88 a0))), .int (sx_J13_bitCount_95d88 a0)] (hp p s q I J) (fun r_ h_ => ∃ x1 I1 J1, r_ = some (.int x1) ∧ h_ = hp p s q I1 J1 ∧ (mm_s SL xs (d + 3) 69 [.long a0, .int x1] (hp p s q I1 J1) (fun r_ h_ => ∃ x2 I2 J2, r_ = some (.int x2) ∧ h_ = hp p s q I2 J2 ∧ Q (some (.int x2)) (hp p s q I2 J2)))))) ∧ (¬ (a2 = Int32.ofInt 0) → (mm_s SL xs (d + 3) 277 [.int ((sx_X6_below a0 a1) + ((a3 - (Int32.ofInt 1)) - (a3 - (Int32.ofInt 1)) / (sx_J13_bitCount_95d88 a0) * (sx_J13_bitCount_95d88 a0))), .int (sx_J13_bitCount_95d88 a0)] (hp p s q I J) (fun r_ h_ => ∃ x3 I3 J3, r_ = some (.int x3) ∧ h_ = hp p s q I3 J3 ∧ (mm_s SL xs (d + 3) 69 [.long a0, .int x3] (hp p s q I3 J3) (fun r_ h_ => ∃ x4 I4 J4, r_ = some (.int x4) ∧ h_ = hp p s q I4 J4 ∧ Q (some (.int x4)) (hp p s q I4 J4))))))))))) : mm_s SL xs (d + 4) 70 [.long a0, .int a1, .int a2, .int a3] (hp p s q I J) Q := by
  refine e_X6_counted rfl ?_
  refine sp_lload_n 1 rfl rfl rfl ?_
  refine sc_S 4 rfl rfl rfl rfl (Nat.le_refl _) (Nat.le_refl _) rfl ?_
  refine cx_J13_bitCount_95d88 ?_
  refine sp_istore 6 rfl rfl rfl ?_
  refine sp_iload 8 rfl rfl rfl ?_
  refine sp_if_ne 11 rfl rfl (fun q => ?_) (fun q => ?_)
  · have k := k.2 q
    refine sp_iload 15 rfl rfl rfl ?_
    refine sp_iconst 16 rfl rfl ?_
    refine sp_isub 17 rfl rfl ?_
    refine sp_iload 19 rfl rfl rfl ?_
    have n1_ := k.1
    have k := k.2
    refine sp_irem 20 rfl n1_ rfl ?_
    refine sp_istore 22 rfl rfl rfl ?_
    refine sp_iload_n 23 rfl rfl rfl ?_
    refine sp_if_eq 26 rfl rfl (fun q => ?_) (fun q => ?_)
    · have k := k.1 q
      refine sp_lload_n 38 rfl rfl rfl ?_
      refine sp_iload_n 39 rfl rfl rfl ?_
      refine sp_iconst 40 rfl rfl ?_
      refine sp_iadd 41 rfl rfl ?_
      refine sc_S 44 rfl rfl rfl rfl (Nat.le_refl _) (Nat.le_refl _) rfl ?_
      refine cx_X6_below ?_
      refine sp_iconst 45 rfl rfl ?_
      refine sp_isub 46 rfl rfl ?_
      refine sp_iload 48 rfl rfl rfl ?_
      refine sp_isub 49 rfl rfl ?_
      refine sp_istore 51 rfl rfl rfl ?_
      refine sp_lload_n 52 rfl rfl rfl ?_
      refine sp_iload 54 rfl rfl rfl ?_
      refine sp_iload 56 rfl rfl rfl ?_
      refine sc_S 59 rfl rfl rfl rfl (Nat.le_refl _) (Nat.le_refl _) rfl ?_
      refine mm_s_mono _ _ _ _ _ _ ?_ k
      rintro r_ h_ ⟨x1, I1, J1, rfl, rfl, k⟩
      refine sc_S 62 rfl rfl rfl rfl (Nat.le_refl _) (Nat.le_refl _) rfl ?_
      refine mm_s_mono _ _ _ _ _ _ ?_ k
      rintro r_ h_ ⟨x2, I2, J2, rfl, rfl, k⟩
      exact st_iret rfl rfl (Nat.le_refl _) (Nat.le_refl _) k
    · have k := k.2 q
      refine sp_lload_n 27 rfl rfl rfl ?_
      refine sp_iload_n 28 rfl rfl rfl ?_
      refine sc_S 31 rfl rfl rfl rfl (Nat.le_refl _) (Nat.le_refl _) rfl ?_
      refine cx_X6_below ?_
      refine sp_iload 33 rfl rfl rfl ?_
      refine sp_iadd 34 rfl rfl ?_
      refine sp_goto rfl ?_
      refine sp_istore 51 rfl rfl rfl ?_
      refine sp_lload_n 52 rfl rfl rfl ?_
      refine sp_iload 54 rfl rfl rfl ?_
      refine sp_iload 56 rfl rfl rfl ?_
      refine sc_S 59 rfl rfl rfl rfl (Nat.le_refl _) (Nat.le_refl _) rfl ?_
      refine mm_s_mono _ _ _ _ _ _ ?_ k
      rintro r_ h_ ⟨x3, I3, J3, rfl, rfl, k⟩
      refine sc_S 62 rfl rfl rfl rfl (Nat.le_refl _) (Nat.le_refl _) rfl ?_
      refine mm_s_mono _ _ _ _ _ _ ?_ k
      rintro r_ h_ ⟨x4, I4, J4, rfl, rfl, k⟩
      exact st_iret rfl rfl (Nat.le_refl _) (Nat.le_refl _) k
  · have k := k.1 q
    refine sp_iconst 12 rfl rfl ?_
    exact st_iret rfl rfl (Nat.le_refl _) (Nat.le_refl _) k
theorem sg_X7_take {SL : Nat} {xs : Nat → Int32} {d : Nat} {p s q : Nat} {Q : Option Value → mm_H → Prop} {a0 : Int32} {I : Nat → Nat → Int32} {J : Nat → Nat → Int64}  (k : (((I 4 2) = a0 → (mm_s SL xs (d + 3) 105 [.ref 4] (hp p s q I J) (fun r_ h_ => ∃ I1 J1, r_ = none ∧ h_ = hp p s q I1 J1 ∧ Q (some (.int (Int32.ofInt 1))) (hp p s q I1 J1)))) ∧ (¬ ((I 4 2) = a0) → (mm_s SL xs (d + 3) 74 [.ref 3, .int (Int32.ofInt 2)] (hp p s q I J) (fun r_ h_ => ∃ x2 I2 J2, r_ = some (.int x2) ∧ h_ = hp p s q I2 J2 ∧ ((x2 = 0 ∨ x2 = 1) ∧ Q (some (.int x2)) (hp p s q I2 J2))))))) : mm_s SL xs (d + 4) 75 [.ref 3, .int a0] (hp p s q I J) Q := by
  refine e_X7_take rfl ?_
  refine sp_aload_n 1 rfl rfl rfl ?_
  refine hq_getR 4 rfl rfl rfl rfl ?_
  refine hq_getI 7 rfl rfl rfl ?_
  refine sp_iload_n 8 rfl rfl rfl ?_
  refine sp_ic_eq 11 rfl rfl (fun q => ?_) (fun q => ?_)
  · have k := k.1 q
    refine sp_aload_n 18 rfl rfl rfl ?_
    refine hq_getR 21 rfl rfl rfl rfl ?_
    refine sc_V 24 rfl rfl rfl rfl rfl (Nat.le_refl _) (Nat.le_refl _) rfl ?_
    refine mm_s_mono _ _ _ _ _ _ ?_ k
    rintro r_ h_ ⟨I1, J1, rfl, rfl, k⟩
    refine sp_iconst 25 rfl rfl ?_
    exact st_zret rfl rfl (by decide) (Nat.le_refl _) (Nat.le_refl _) k
  · have k := k.2 q
    refine sp_aload_n 12 rfl rfl rfl ?_
    refine sp_iconst 13 rfl rfl ?_
    refine sc_V 16 rfl rfl rfl rfl rfl (Nat.le_refl _) (Nat.le_refl _) rfl ?_
    refine mm_s_mono _ _ _ _ _ _ ?_ k
    rintro r_ h_ ⟨x2, I2, J2, rfl, rfl, k⟩
    exact st_zret rfl rfl k.1 (Nat.le_refl _) (Nat.le_refl _) k.2
def w_X7_readSetting_21 (SL : Nat) (xs : Nat → Int32) (d : Nat) (p s q : Nat) (Q : Option Value → mm_H → Prop) (v1 : Int32) (I : Nat → Nat → Int32) (J : Nat → Nat → Int64) : Prop := mm_w SL xs (mm_s SL xs (d + 3)) mm_am kX7_readSetting 0 0 (some .boolean) Q 21 [some (.ref 3), some (.int v1), none, none] [] (hp p s q I J) 0 0
def w_X7_readSetting_27 (SL : Nat) (xs : Nat → Int32) (d : Nat) (p s q : Nat) (Q : Option Value → mm_H → Prop) (v1 : Int32) (v2 : Int32) (I : Nat → Nat → Int32) (J : Nat → Nat → Int64) : Prop := mm_w SL xs (mm_s SL xs (d + 3)) mm_am kX7_readSetting 0 0 (some .boolean) Q 27 [some (.ref 3), some (.int v1), some (.int v2), none] [] (hp p s q I J) 0 0
def w_X7_readSetting_66 (SL : Nat) (xs : Nat → Int32) (d : Nat) (p s q : Nat) (Q : Option Value → mm_H → Prop) (v1 : Int32) (v2 : Int32) (v3 : Int32) (I : Nat → Nat → Int32) (J : Nat → Nat → Int64) : Prop := mm_w SL xs (mm_s SL xs (d + 3)) mm_am kX7_readSetting 0 0 (some .boolean) Q 66 [some (.ref 3), some (.int v1), some (.int v2), some (.int v3)] [] (hp p s q I J) 0 0
theorem sg_X7_readSetting {SL : Nat} {xs : Nat → Int32} {d : Nat} {p s q : Nat} {Q : Option Value → mm_H → Prop} {a0 : Int32} {I : Nat → Nat → Int32} {J : Nat → Nat → Int64}  (k : ((a0 = (Int32.ofInt 128) → w_X7_readSetting_21 SL xs d p s q Q a0 I J) ∧ (¬ (a0 = (Int32.ofInt 128)) → ((a0 = (Int32.ofInt 130) → w_X7_readSetting_21 SL xs d p s q Q a0 I J) ∧ (¬ (a0 = (Int32.ofInt 130)) → ((a0 = (Int32.ofInt 132) → w_X7_readSetting_21 SL xs d p s q Q a0 I J) ∧ (¬ (a0 = (Int32.ofInt 132)) → w_X7_readSetting_27 SL xs d p s q Q a0 (Int32.ofInt 0) I J))))))) : mm_s SL xs (d + 4) 79 [.ref 3, .int a0] (hp p s q I J) Q := by
  refine e_X7_readSetting rfl ?_
  refine sp_iload_n 1 rfl rfl rfl ?_
  refine sp_sipush 4 rfl rfl ?_
  refine sp_I (y := Int32.ofInt 128) rfl ?_
  refine sp_ic_eq 7 rfl rfl (fun q => ?_) (fun q => ?_)
  · have k := k.1 q
    exact k
  · have k := k.2 q
    refine sp_iload_n 8 rfl rfl rfl ?_
    refine sp_sipush 11 rfl rfl ?_
    refine sp_I (y := Int32.ofInt 130) rfl ?_
    refine sp_ic_eq 14 rfl rfl (fun q => ?_) (fun q => ?_)
    · have k := k.1 q
      exact k
    · have k := k.2 q
      refine sp_iload_n 15 rfl rfl rfl ?_
      refine sp_sipush 18 rfl rfl ?_
      refine sp_I (y := Int32.ofInt 132) rfl ?_
      refine sp_ic_ne 21 rfl rfl (fun q => ?_) (fun q => ?_)
      · have k := k.2 q
        refine sp_iconst 26 rfl rfl ?_
        refine sp_istore_n 27 rfl rfl rfl ?_
        exact k
      · have k := k.1 q
        exact k
theorem sg_X7_readSetting_21 {SL : Nat} {xs : Nat → Int32} {d : Nat} {p s q : Nat} {Q : Option Value → mm_H → Prop} {v1 : Int32} {I : Nat → Nat → Int32} {J : Nat → Nat → Int64}  (k : w_X7_readSetting_27 SL xs d p s q Q v1 (Int32.ofInt 1) I J) : w_X7_readSetting_21 SL xs d p s q Q v1 I J := by
  unfold w_X7_readSetting_21
  refine sp_iconst 22 rfl rfl ?_
  refine sp_goto rfl ?_
  refine sp_istore_n 27 rfl rfl rfl ?_
  exact k
theorem sg_X7_readSetting_27 {SL : Nat} {xs : Nat → Int32} {d : Nat} {p s q : Nat} {Q : Option Value → mm_H → Prop} {v1 : Int32} {v2 : Int32} {I : Nat → Nat → Int32} {J : Nat → Nat → Int64}  (k : ((v1 = (Int32.ofInt 128) → w_X7_readSetting_66 SL xs d p s q Q v1 v2 (Int32.ofInt 60) I J) ∧ (¬ (v1 = (Int32.ofInt 128)) → ((v1 = (Int32.ofInt 132) → w_X7_readSetting_66 SL xs d p s q Q v1 v2 (Int32.ofInt 99) I J) ∧ (¬ (v1 = (Int32.ofInt 132)) → ((v1 = (Int32.ofInt 133) → w_X7_readSetting_66 SL xs d p s q Q v1 v2 (Int32.ofInt 9) I J) ∧ (¬ (v1 = (Int32.ofInt 133)) → w_X7_readSetting_66 SL xs d p s q Q v1 v2 (Int32.ofInt 59) I J))))))) : w_X7_readSetting_27 SL xs d p s q Q v1 v2 I J := by
  unfold w_X7_readSetting_27
  refine sp_iload_n 28 rfl rfl rfl ?_
  refine sp_sipush 31 rfl rfl ?_
  refine sp_I (y := Int32.ofInt 128) rfl ?_
  refine sp_ic_ne 34 rfl rfl (fun q => ?_) (fun q => ?_)
  · have k := k.2 q
    refine sp_iload_n 40 rfl rfl rfl ?_
    refine sp_sipush 43 rfl rfl ?_
    refine sp_I (y := Int32.ofInt 132) rfl ?_
    refine sp_ic_ne 46 rfl rfl (fun q => ?_) (fun q => ?_)
    · have k := k.2 q
      refine sp_iload_n 52 rfl rfl rfl ?_
      refine sp_sipush 55 rfl rfl ?_
      refine sp_I (y := Int32.ofInt 133) rfl ?_
      refine sp_ic_ne 58 rfl rfl (fun q => ?_) (fun q => ?_)
      · have k := k.2 q
        refine sp_bipush 65 rfl rfl ?_
        refine sp_I (y := Int32.ofInt 59) rfl ?_
        refine sp_istore_n 66 rfl rfl rfl ?_
        exact k
      · have k := k.1 q
        refine sp_bipush 60 rfl rfl ?_
        refine sp_I (y := Int32.ofInt 9) rfl ?_
        refine sp_goto rfl ?_
        refine sp_istore_n 66 rfl rfl rfl ?_
        exact k
    · have k := k.1 q
      refine sp_bipush 48 rfl rfl ?_
      refine sp_I (y := Int32.ofInt 99) rfl ?_
      refine sp_goto rfl ?_
      refine sp_istore_n 66 rfl rfl rfl ?_
      exact k
  · have k := k.1 q
    refine sp_bipush 36 rfl rfl ?_
    refine sp_I (y := Int32.ofInt 60) rfl ?_
    refine sp_goto rfl ?_
    refine sp_istore_n 66 rfl rfl rfl ?_
    exact k
theorem sg_X7_readSetting_66 {SL : Nat} {xs : Nat → Int32} {d : Nat} {p s q : Nat} {Q : Option Value → mm_H → Prop} {v1 : Int32} {v2 : Int32} {v3 : Int32} {I : Nat → Nat → Int32} {J : Nat → Nat → Int64} (h_q : isP q) (k : (mm_s SL xs (d + 3) 78 [.ref 3, .int v2, .int v3] (hp p s q I J) (fun r_ h_ => ∃ x1 I1 J1, r_ = some (.int x1) ∧ h_ = hp p s q I1 J1 ∧ ((x1 = Int32.ofInt 0 → Q (some (.int (Int32.ofInt 0))) (hp p s q I1 J1)) ∧ (¬ (x1 = Int32.ofInt 0) → (mm_s SL xs (d + 3) 52 [.ref q, .int v1, .int (I1 4 4)] (hp p s q I1 J1) (fun r_ h_ => ∃ I2 J2, r_ = none ∧ h_ = hp p s q I2 J2 ∧ (mm_s SL xs (d + 3) 105 [.ref 4] (hp p s q I2 J2) (fun r_ h_ => ∃ I3 J3, r_ = none ∧ h_ = hp p s q I3 J3 ∧ Q (some (.int (Int32.ofInt 1))) (hp p s q I3 J3)))))))))) : w_X7_readSetting_66 SL xs d p s q Q v1 v2 v3 I J := by
  unfold w_X7_readSetting_66
  refine sp_aload_n 67 rfl rfl rfl ?_
  refine sp_iload_n 68 rfl rfl rfl ?_
  refine sp_iload_n 69 rfl rfl rfl ?_
  refine sc_V 72 rfl rfl rfl rfl rfl (Nat.le_refl _) (Nat.le_refl _) rfl ?_
  refine mm_s_mono _ _ _ _ _ _ ?_ k
  rintro r_ h_ ⟨x1, I1, J1, rfl, rfl, k⟩
  refine sp_if_ne 75 rfl rfl (fun q => ?_) (fun q => ?_)
  · have k := k.2 q
    refine sp_aload_n 78 rfl rfl rfl ?_
    refine hq_getR 81 rfl rfl rfl rfl ?_
    refine sp_iload_n 82 rfl rfl rfl ?_
    refine sp_aload_n 83 rfl rfl rfl ?_
    refine hq_getR 86 rfl rfl rfl rfl ?_
    refine hq_getI 89 rfl rfl rfl ?_
    refine sc_V 92 rfl rfl (kP0 h_q) rfl rfl (Nat.le_refl _) (Nat.le_refl _) rfl ?_
    refine mm_s_mono _ _ _ _ _ _ ?_ k
    rintro r_ h_ ⟨I2, J2, rfl, rfl, k⟩
    refine sp_aload_n 93 rfl rfl rfl ?_
    refine hq_getR 96 rfl rfl rfl rfl ?_
    refine sc_V 99 rfl rfl rfl rfl rfl (Nat.le_refl _) (Nat.le_refl _) rfl ?_
    refine mm_s_mono _ _ _ _ _ _ ?_ k
    rintro r_ h_ ⟨I3, J3, rfl, rfl, k⟩
    refine sp_iconst 100 rfl rfl ?_
    exact st_zret rfl rfl (by decide) (Nat.le_refl _) (Nat.le_refl _) k
  · have k := k.1 q
    refine sp_iconst 76 rfl rfl ?_
    exact st_zret rfl rfl (by decide) (Nat.le_refl _) (Nat.le_refl _) k
def w_X7_readRhyme_19 (SL : Nat) (xs : Nat → Int32) (d : Nat) (p s q : Nat) (Q : Option Value → mm_H → Prop) (v1 : Int32) (I : Nat → Nat → Int32) (J : Nat → Nat → Int64) : Prop := mm_w SL xs (mm_s SL xs (d + 3)) mm_am kX7_readRhyme 0 0 (some .boolean) Q 19 [some (.ref 3), some (.int v1)] [] (hp p s q I J) 0 0
theorem sg_X7_readRhyme {SL : Nat} {xs : Nat → Int32} {d : Nat} {p s q : Nat} {Q : Option Value → mm_H → Prop}  {I : Nat → Nat → Int32} {J : Nat → Nat → Int64}  (k : (((I 4 2) = (Int32.ofInt 3) → w_X7_readRhyme_19 SL xs d p s q Q (Int32.ofInt 0) I J) ∧ (¬ ((I 4 2) = (Int32.ofInt 3)) → (mm_s SL xs (d + 3) 74 [.ref 3, .int (Int32.ofInt 2)] (hp p s q I J) (fun r_ h_ => ∃ x1 I1 J1, r_ = some (.int x1) ∧ h_ = hp p s q I1 J1 ∧ ((x1 = 0 ∨ x1 = 1) ∧ Q (some (.int x1)) (hp p s q I1 J1))))))) : mm_s SL xs (d + 4) 81 [.ref 3] (hp p s q I J) Q := by
  refine e_X7_readRhyme rfl ?_
  refine sp_aload_n 1 rfl rfl rfl ?_
  refine hq_getR 4 rfl rfl rfl rfl ?_
  refine hq_getI 7 rfl rfl rfl ?_
  refine sp_iconst 8 rfl rfl ?_
  refine sp_ic_eq 11 rfl rfl (fun q => ?_) (fun q => ?_)
  · have k := k.1 q
    refine sp_iconst 18 rfl rfl ?_
    refine sp_istore_n 19 rfl rfl rfl ?_
    exact k
  · have k := k.2 q
    refine sp_aload_n 12 rfl rfl rfl ?_
    refine sp_iconst 13 rfl rfl ?_
    refine sc_V 16 rfl rfl rfl rfl rfl (Nat.le_refl _) (Nat.le_refl _) rfl ?_
    refine mm_s_mono _ _ _ _ _ _ ?_ k
    rintro r_ h_ ⟨x1, I1, J1, rfl, rfl, k⟩
    exact st_zret rfl rfl k.1 (Nat.le_refl _) (Nat.le_refl _) k.2
theorem sg_X7_readRhyme_19 {SL : Nat} {xs : Nat → Int32} {d : Nat} {p s q : Nat} {Q : Option Value → mm_H → Prop} {v1 : Int32} {I : Nat → Nat → Int32} {J : Nat → Nat → Int64} (h_q : isP q) (k : (((Int32.ofInt 24) ≤ v1 → Q (some (.int (Int32.ofInt 1))) (hp p s q I J)) ∧ (¬ ((Int32.ofInt 24) ≤ v1) → (((I 4 2) = (Int32.ofInt 3) → (mm_s SL xs (d + 3) 105 [.ref 4] (hp p s q (mm_u (mm_u I q 7 ((I q 7) + (Int32.ofInt 1))) q 8 ((I q 8) + ((mm_u I q 7 ((I q 7) + (Int32.ofInt 1))) 4 6))) J) (fun r_ h_ => ∃ I1 J1, r_ = none ∧ h_ = hp p s q I1 J1 ∧ w_X7_readRhyme_19 SL xs d p s q Q (v1 + Int32.ofInt 1) I1 J1))) ∧ (¬ ((I 4 2) = (Int32.ofInt 3)) → Q (some (.int (Int32.ofInt 1))) (hp p s q I J)))))) : w_X7_readRhyme_19 SL xs d p s q Q v1 I J := by
  unfold w_X7_readRhyme_19
  refine sp_iload_n 20 rfl rfl rfl ?_
  refine sp_bipush 22 rfl rfl ?_
  refine sp_I (y := Int32.ofInt 24) rfl ?_
  refine sp_ic_ge 25 rfl rfl (fun q => ?_) (fun q => ?_)
  · have k := k.1 q
    refine sp_iconst 82 rfl rfl ?_
    exact st_zret rfl rfl (by decide) (Nat.le_refl _) (Nat.le_refl _) k
  · have k := k.2 q
    refine sp_aload_n 26 rfl rfl rfl ?_
    refine hq_getR 29 rfl rfl rfl rfl ?_
    refine hq_getI 32 rfl rfl rfl ?_
    refine sp_iconst 33 rfl rfl ?_
    refine sp_ic_ne 36 rfl rfl (fun q => ?_) (fun q => ?_)
    · have k := k.2 q
      refine sp_iconst 82 rfl rfl ?_
      exact st_zret rfl rfl (by decide) (Nat.le_refl _) (Nat.le_refl _) k
    · have k := k.1 q
      refine sp_aload_n 37 rfl rfl rfl ?_
      refine hq_getR 40 rfl rfl rfl rfl ?_
      refine sp_dup 41 rfl rfl rfl ?_
      refine hq_getI 44 rfl (kP0 h_q) rfl ?_
      refine sp_iconst 45 rfl rfl ?_
      refine sp_iadd 46 rfl rfl ?_
      refine hq_putI 49 rfl (kP0 h_q) rfl ?_
      refine sp_aload_n 50 rfl rfl rfl ?_
      refine hq_getR 53 rfl rfl rfl rfl ?_
      refine sp_dup 54 rfl rfl rfl ?_
      refine hq_getI 57 rfl (kP0 h_q) rfl ?_
      refine sp_I (y := (I q 8)) (by simp [mm_u]) ?_
      refine sp_aload_n 58 rfl rfl rfl ?_
      refine hq_getR 61 rfl rfl rfl rfl ?_
      refine hq_getI 64 rfl rfl rfl ?_
      refine sp_iadd 65 rfl rfl ?_
      refine hq_putI 68 rfl (kP0 h_q) rfl ?_
      refine sp_aload_n 69 rfl rfl rfl ?_
      refine hq_getR 72 rfl rfl rfl rfl ?_
      refine sc_V 75 rfl rfl rfl rfl rfl (Nat.le_refl _) (Nat.le_refl _) rfl ?_
      refine mm_s_mono _ _ _ _ _ _ ?_ k
      rintro r_ h_ ⟨I1, J1, rfl, rfl, k⟩
      refine sp_iinc 78 rfl rfl rfl rfl ?_
      refine sp_goto rfl ?_
      exact k
def w_X8_tallyOrder_11 (SL : Nat) (xs : Nat → Int32) (d : Nat) (p s q : Nat) (Q : Option Value → mm_H → Prop) (v1 : Int32) (v2 : Int32) (v3 : Int64) (v5 : Int32) (v6 : Int32) (I : Nat → Nat → Int32) (J : Nat → Nat → Int64) : Prop := mm_w SL xs (mm_s SL xs (d + 3)) mm_am kX8_tallyOrder 0 0 none Q 11 [some (.ref 33), some (.int v1), some (.int v2), some (.long v3), none, some (.int v5), some (.int v6), none] [] (hp p s q I J) 0 0
theorem sg_X8_tallyOrder {SL : Nat} {xs : Nat → Int32} {d : Nat} {p s q : Nat} {Q : Option Value → mm_H → Prop} {a0 : Int32} {a1 : Int32} {I : Nat → Nat → Int32} {J : Nat → Nat → Int64}  (k : w_X8_tallyOrder_11 SL xs d p s q Q a0 a1 (sx_X6_all a0) (Int32.ofInt 0) (Int32.ofInt 0) I J) : mm_s SL xs (d + 4) 100 [.ref 33, .int a0, .int a1] (hp p s q I J) Q := by
  refine e_X8_tallyOrder rfl ?_
  refine sp_iload_n 1 rfl rfl rfl ?_
  refine sc_S 4 rfl rfl rfl rfl (Nat.le_refl _) (Nat.le_refl _) rfl ?_
  refine cx_X6_all ?_
  refine sp_lstore_n 5 rfl rfl rfl ?_
  refine sp_iconst 6 rfl rfl ?_
  refine sp_istore 8 rfl rfl rfl ?_
  refine sp_iconst 9 rfl rfl ?_
  refine sp_istore 11 rfl rfl rfl ?_
  exact k
theorem sg_X8_tallyOrder_11 {SL : Nat} {xs : Nat → Int32} {d : Nat} {p s q : Nat} {Q : Option Value → mm_H → Prop} {v1 : Int32} {v2 : Int32} {v3 : Int64} {v5 : Int32} {v6 : Int32} {I : Nat → Nat → Int32} {J : Nat → Nat → Int64}  (k : ((v1 ≤ v6 → Q none (hp p s q I J)) ∧ (¬ (v1 ≤ v6) → (((Int32.ofInt 60) ≤ v6 → Q none (hp p s q I J)) ∧ (¬ ((Int32.ofInt 60) ≤ v6) → (¬ (v1 - v6) = 0 ∧ (mm_s SL xs (d + 3) 69 [.long v3, .int (((v5 + v2) - (Int32.ofInt 1)) - ((v5 + v2) - (Int32.ofInt 1)) / (v1 - v6) * (v1 - v6))] (hp p s q I J) (fun r_ h_ => ∃ x1 I1 J1, r_ = some (.int x1) ∧ h_ = hp p s q I1 J1 ∧ ((x1 < Int32.ofInt 0 → w_X8_tallyOrder_11 SL xs d p s q Q v1 v2 v3 (((v5 + v2) - (Int32.ofInt 1)) - ((v5 + v2) - (Int32.ofInt 1)) / (v1 - v6) * (v1 - v6)) (v6 + Int32.ofInt 1) I1 J1) ∧ (¬ (x1 < Int32.ofInt 0) → (((Int32.ofInt 60) ≤ x1 → w_X8_tallyOrder_11 SL xs d p s q Q v1 v2 v3 (((v5 + v2) - (Int32.ofInt 1)) - ((v5 + v2) - (Int32.ofInt 1)) / (v1 - v6) * (v1 - v6)) (v6 + Int32.ofInt 1) I1 J1) ∧ (¬ ((Int32.ofInt 60) ≤ x1) → (vp_in ((v6 * (Int32.ofInt 60)) + x1) 3600 ∧ w_X8_tallyOrder_11 SL xs d p s q Q v1 v2 (v3 &&& ((sx_X6_bit x1) ^^^ (Int64.ofInt (-1)))) (((v5 + v2) - (Int32.ofInt 1)) - ((v5 + v2) - (Int32.ofInt 1)) / (v1 - v6) * (v1 - v6)) (v6 + Int32.ofInt 1) (mm_u I1 38 ((((v6 * (Int32.ofInt 60)) + x1)).toNatClampNeg) ((I1 38 ((((v6 * (Int32.ofInt 60)) + x1)).toNatClampNeg)) + (Int32.ofInt 1))) J1))))))))))))) : w_X8_tallyOrder_11 SL xs d p s q Q v1 v2 v3 v5 v6 I J := by
  unfold w_X8_tallyOrder_11
  refine sp_iload 13 rfl rfl rfl ?_
  refine sp_iload_n 14 rfl rfl rfl ?_
  refine sp_ic_ge 17 rfl rfl (fun q => ?_) (fun q => ?_)
  · have k := k.1 q
    exact st_vret rfl rfl (Nat.le_refl _) (Nat.le_refl _) k
  · have k := k.2 q
    refine sp_iload 19 rfl rfl rfl ?_
    refine sp_bipush 21 rfl rfl ?_
    refine sp_I (y := Int32.ofInt 60) rfl ?_
    refine sp_ic_ge 24 rfl rfl (fun q => ?_) (fun q => ?_)
    · have k := k.1 q
      exact st_vret rfl rfl (Nat.le_refl _) (Nat.le_refl _) k
    · have k := k.2 q
      refine sp_iload 26 rfl rfl rfl ?_
      refine sp_iload_n 27 rfl rfl rfl ?_
      refine sp_iadd 28 rfl rfl ?_
      refine sp_iconst 29 rfl rfl ?_
      refine sp_isub 30 rfl rfl ?_
      refine sp_iload_n 31 rfl rfl rfl ?_
      refine sp_iload 33 rfl rfl rfl ?_
      refine sp_isub 34 rfl rfl ?_
      have n1_ := k.1
      have k := k.2
      refine sp_irem 35 rfl n1_ rfl ?_
      refine sp_istore 37 rfl rfl rfl ?_
      refine sp_lload_n 38 rfl rfl rfl ?_
      refine sp_iload 40 rfl rfl rfl ?_
      refine sc_S 43 rfl rfl rfl rfl (Nat.le_refl _) (Nat.le_refl _) rfl ?_
      refine mm_s_mono _ _ _ _ _ _ ?_ k
      rintro r_ h_ ⟨x1, I1, J1, rfl, rfl, k⟩
      refine sp_istore 45 rfl rfl rfl ?_
      refine sp_iload 47 rfl rfl rfl ?_
      refine sp_if_lt 50 rfl rfl (fun q => ?_) (fun q => ?_)
      · have k := k.1 q
        refine sp_iinc 89 rfl rfl rfl rfl ?_
        refine sp_goto rfl ?_
        refine st_wk (L1 := [some (.ref 33), some (.int v1), some (.int v2), some (.long v3), none, some (.int (((v5 + v2) - (Int32.ofInt 1)) - ((v5 + v2) - (Int32.ofInt 1)) / (v1 - v6) * (v1 - v6))), some (.int (v6 + Int32.ofInt 1)), none]) ⟨.inr rfl, .inr rfl, .inr rfl, .inr rfl, .inl rfl, .inr rfl, .inr rfl, .inl rfl, trivial⟩ ?_
        exact k
      · have k := k.2 q
        refine sp_iload 52 rfl rfl rfl ?_
        refine sp_bipush 54 rfl rfl ?_
        refine sp_I (y := Int32.ofInt 60) rfl ?_
        refine sp_ic_ge 57 rfl rfl (fun q => ?_) (fun q => ?_)
        · have k := k.1 q
          refine sp_iinc 89 rfl rfl rfl rfl ?_
          refine sp_goto rfl ?_
          refine st_wk (L1 := [some (.ref 33), some (.int v1), some (.int v2), some (.long v3), none, some (.int (((v5 + v2) - (Int32.ofInt 1)) - ((v5 + v2) - (Int32.ofInt 1)) / (v1 - v6) * (v1 - v6))), some (.int (v6 + Int32.ofInt 1)), none]) ⟨.inr rfl, .inr rfl, .inr rfl, .inr rfl, .inl rfl, .inr rfl, .inr rfl, .inl rfl, trivial⟩ ?_
          exact k
        · have k := k.2 q
          refine sp_aload_n 58 rfl rfl rfl ?_
          refine hq_getR 61 rfl rfl rfl rfl ?_
          refine sp_iload 63 rfl rfl rfl ?_
          refine sp_bipush 65 rfl rfl ?_
          refine sp_I (y := Int32.ofInt 60) rfl ?_
          refine sp_imul 66 rfl rfl ?_
          refine sp_iload 68 rfl rfl rfl ?_
          refine sp_iadd 69 rfl rfl ?_
          refine sp_dup2 70 rfl rfl rfl rfl ?_
          have n2_ := k.1
          have k := k.2
          refine hq_iald 71 rfl rfl n2_ rfl ?_
          refine sp_iconst 72 rfl rfl ?_
          refine sp_iadd 73 rfl rfl ?_
          refine hq_iast 74 rfl rfl n2_ rfl ?_
          refine sp_lload_n 75 rfl rfl rfl ?_
          refine sp_iload 77 rfl rfl rfl ?_
          refine sc_S 80 rfl rfl rfl rfl (Nat.le_refl _) (Nat.le_refl _) rfl ?_
          refine cx_X6_bit ?_
          refine sp_ldc2 83 rfl rfl ?_
          refine sp_lxor 84 rfl rfl ?_
          refine sp_land 85 rfl rfl ?_
          refine sp_lstore_n 86 rfl rfl rfl ?_
          refine sp_iinc 89 rfl rfl rfl rfl ?_
          refine sp_goto rfl ?_
          refine st_wk (L1 := [some (.ref 33), some (.int v1), some (.int v2), some (.long (v3 &&& ((sx_X6_bit x1) ^^^ (Int64.ofInt (-1))))), none, some (.int (((v5 + v2) - (Int32.ofInt 1)) - ((v5 + v2) - (Int32.ofInt 1)) / (v1 - v6) * (v1 - v6))), some (.int (v6 + Int32.ofInt 1)), none]) ⟨.inr rfl, .inr rfl, .inr rfl, .inr rfl, .inl rfl, .inr rfl, .inr rfl, .inl rfl, trivial⟩ ?_
          exact k
theorem sg_X9_rewind {SL : Nat} {xs : Nat → Int32} {d : Nat} {p s q : Nat} {Q : Option Value → mm_H → Prop}  {I : Nat → Nat → Int32} {J : Nat → Nat → Int64}  (k : (mm_s SL xs (d + 3) 105 [.ref 4] (hp p s q (mm_u I 4 7 (Int32.ofInt 0)) J) (fun r_ h_ => ∃ I1 J1, r_ = none ∧ h_ = hp p s q I1 J1 ∧ Q none (hp p s q I1 J1)))) : mm_s SL xs (d + 4) 104 [.ref 4] (hp p s q I J) Q := by
  refine e_X9_rewind rfl ?_
  refine sp_aload_n 1 rfl rfl rfl ?_
  refine sp_iconst 2 rfl rfl ?_
  refine hq_putI 5 rfl rfl rfl ?_
  refine sp_aload_n 6 rfl rfl rfl ?_
  refine sc_V 9 rfl rfl rfl rfl rfl (Nat.le_refl _) (Nat.le_refl _) rfl ?_
  refine mm_s_mono _ _ _ _ _ _ ?_ k
  rintro r_ h_ ⟨I1, J1, rfl, rfl, k⟩
  exact st_vret rfl rfl (Nat.le_refl _) (Nat.le_refl _) k
theorem sg_X1_goOnce {SL : Nat} {xs : Nat → Int32} {d : Nat} {p s q : Nat} {Q : Option Value → mm_H → Prop} {o : Nat} {a0 : Nat} {a1 : Int32} {I : Nat → Nat → Int32} {J : Nat → Nat → Int64} (h_a0 : isP a0) (h_o : isC o) (k : (((I a0 5) = (Int32.ofInt (-1)) → (mm_s SL xs (d + 4) 17 [.ref o, .ref a0] (hp p s q I J) (fun r_ h_ => ∃ x1 I1 J1, r_ = some (.int x1) ∧ h_ = hp p s q I1 J1 ∧ (((Int32.ofInt 0) = x1 → (mm_s SL xs (d + 4) 70 [.long (J1 o 1), .int (sy_X1_firstLook o a0 (Int32.ofInt 0) (Int32.ofInt 1) I1 J1), .int (Int32.ofInt 1), .int a1] (hp p s q I1 J1) (fun r_ h_ => ∃ x4 I4 J4, r_ = some (.int x4) ∧ h_ = hp p s q I4 J4 ∧ (mm_s SL xs (d + 4) 23 [.ref o, .ref a0, .int x4] (hp p s q (mm_u (mm_u (mm_u I4 o 2 ((I4 o 2) + (Int32.ofInt 1))) o 10 a1) o 3 x4) J4) (fun r_ h_ => ∃ I5 J5, r_ = none ∧ h_ = hp p s q I5 J5 ∧ Q none (hp p s q I5 J5)))))) ∧ (¬ ((Int32.ofInt 0) = x1) → (mm_s SL xs (d + 4) 70 [.long (J1 o 1), .int (sy_X1_firstLook o a0 (Int32.ofInt 0) (Int32.ofInt 0) I1 J1), .int (Int32.ofInt 0), .int a1] (hp p s q I1 J1) (fun r_ h_ => ∃ x2 I2 J2, r_ = some (.int x2) ∧ h_ = hp p s q I2 J2 ∧ (mm_s SL xs (d + 4) 23 [.ref o, .ref a0, .int x2] (hp p s q (mm_u (mm_u (mm_u I2 o 2 ((I2 o 2) + (Int32.ofInt 1))) o 10 a1) o 3 x2) J2) (fun r_ h_ => ∃ I3 J3, r_ = none ∧ h_ = hp p s q I3 J3 ∧ Q none (hp p s q I3 J3)))))))))) ∧ (¬ ((I a0 5) = (Int32.ofInt (-1))) → ((((I o 2) - (I o 2) / (Int32.ofInt 2) * (Int32.ofInt 2)) = (Int32.ofInt 1) → (mm_s SL xs (d + 4) 17 [.ref o, .ref a0] (hp p s q I J) (fun r_ h_ => ∃ x11 I11 J11, r_ = some (.int x11) ∧ h_ = hp p s q I11 J11 ∧ (((Int32.ofInt 1) = x11 → (mm_s SL xs (d + 4) 70 [.long (J11 o 1), .int (sy_X1_firstLook o a0 (Int32.ofInt 1) (Int32.ofInt 1) I11 J11), .int (Int32.ofInt 1), .int a1] (hp p s q I11 J11) (fun r_ h_ => ∃ x14 I14 J14, r_ = some (.int x14) ∧ h_ = hp p s q I14 J14 ∧ (mm_s SL xs (d + 4) 23 [.ref o, .ref a0, .int x14] (hp p s q (mm_u (mm_u (mm_u I14 o 2 ((I14 o 2) + (Int32.ofInt 1))) o 10 a1) o 4 x14) J14) (fun r_ h_ => ∃ I15 J15, r_ = none ∧ h_ = hp p s q I15 J15 ∧ Q none (hp p s q I15 J15)))))) ∧ (¬ ((Int32.ofInt 1) = x11) → (mm_s SL xs (d + 4) 70 [.long (J11 o 1), .int (sy_X1_firstLook o a0 (Int32.ofInt 1) (Int32.ofInt 0) I11 J11), .int (Int32.ofInt 0), .int a1] (hp p s q I11 J11) (fun r_ h_ => ∃ x12 I12 J12, r_ = some (.int x12) ∧ h_ = hp p s q I12 J12 ∧ (mm_s SL xs (d + 4) 23 [.ref o, .ref a0, .int x12] (hp p s q (mm_u (mm_u (mm_u I12 o 2 ((I12 o 2) + (Int32.ofInt 1))) o 10 a1) o 4 x12) J12) (fun r_ h_ => ∃ I13 J13, r_ = none ∧ h_ = hp p s q I13 J13 ∧ Q none (hp p s q I13 J13)))))))))) ∧ (¬ (((I o 2) - (I o 2) / (Int32.ofInt 2) * (Int32.ofInt 2)) = (Int32.ofInt 1)) → (mm_s SL xs (d + 4) 17 [.ref o, .ref a0] (hp p s q I J) (fun r_ h_ => ∃ x6 I6 J6, r_ = some (.int x6) ∧ h_ = hp p s q I6 J6 ∧ (((Int32.ofInt 0) = x6 → (mm_s SL xs (d + 4) 70 [.long (J6 o 1), .int (sy_X1_firstLook o a0 (Int32.ofInt 0) (Int32.ofInt 1) I6 J6), .int (Int32.ofInt 1), .int a1] (hp p s q I6 J6) (fun r_ h_ => ∃ x9 I9 J9, r_ = some (.int x9) ∧ h_ = hp p s q I9 J9 ∧ (mm_s SL xs (d + 4) 23 [.ref o, .ref a0, .int x9] (hp p s q (mm_u (mm_u (mm_u I9 o 2 ((I9 o 2) + (Int32.ofInt 1))) o 10 a1) o 3 x9) J9) (fun r_ h_ => ∃ I10 J10, r_ = none ∧ h_ = hp p s q I10 J10 ∧ Q none (hp p s q I10 J10)))))) ∧ (¬ ((Int32.ofInt 0) = x6) → (mm_s SL xs (d + 4) 70 [.long (J6 o 1), .int (sy_X1_firstLook o a0 (Int32.ofInt 0) (Int32.ofInt 0) I6 J6), .int (Int32.ofInt 0), .int a1] (hp p s q I6 J6) (fun r_ h_ => ∃ x7 I7 J7, r_ = some (.int x7) ∧ h_ = hp p s q I7 J7 ∧ (mm_s SL xs (d + 4) 23 [.ref o, .ref a0, .int x7] (hp p s q (mm_u (mm_u (mm_u I7 o 2 ((I7 o 2) + (Int32.ofInt 1))) o 10 a1) o 3 x7) J7) (fun r_ h_ => ∃ I8 J8, r_ = none ∧ h_ = hp p s q I8 J8 ∧ Q none (hp p s q I8 J8)))))))))))))) : mm_s SL xs (d + 5) 21 [.ref o, .ref a0, .int a1] (hp p s q I J) Q := by
  refine e_X1_goOnce rfl ?_
  refine sp_aload_n 1 rfl rfl rfl ?_
  refine hq_getI 4 rfl (kP0 h_a0) rfl ?_
  refine sp_iconst 5 rfl rfl ?_
  refine sp_ic_eq 8 rfl rfl (fun q => ?_) (fun q => ?_)
  · have k := k.1 q
    refine sp_iconst 23 rfl rfl ?_
    refine sp_istore_n 24 rfl rfl rfl ?_
    refine sp_iload_n 25 rfl rfl rfl ?_
    refine sp_aload_n 26 rfl rfl rfl ?_
    refine sp_aload_n 27 rfl rfl rfl ?_
    refine sc_V 30 rfl rfl (kC0 h_o) rfl rfl (Nat.le_refl _) (Nat.le_refl _) rfl ?_
    refine mm_s_mono _ _ _ _ _ _ ?_ k
    rintro r_ h_ ⟨x1, I1, J1, rfl, rfl, k⟩
    refine sp_ic_ne 33 rfl rfl (fun q => ?_) (fun q => ?_)
    · have k := k.2 q
      refine sp_iconst 38 rfl rfl ?_
      refine sp_istore 40 rfl rfl rfl ?_
      refine sp_aload_n 41 rfl rfl rfl ?_
      refine hq_getJ 44 rfl (kC0 h_o) rfl ?_
      refine sp_aload_n 45 rfl rfl rfl ?_
      refine sp_aload_n 46 rfl rfl rfl ?_
      refine sp_iload_n 47 rfl rfl rfl ?_
      refine sp_iload 49 rfl rfl rfl ?_
      refine sc_V 52 rfl rfl (kC0 h_o) rfl rfl (Nat.le_refl _) (Nat.le_refl _) rfl ?_
      refine cy_X1_firstLook h_a0 h_o ?_
      refine sp_iload 54 rfl rfl rfl ?_
      refine sp_iload_n 55 rfl rfl rfl ?_
      refine sc_S 58 rfl rfl rfl rfl (Nat.le_refl _) (Nat.le_refl _) rfl ?_
      refine mm_s_mono _ _ _ _ _ _ ?_ k
      rintro r_ h_ ⟨x2, I2, J2, rfl, rfl, k⟩
      refine sp_istore 60 rfl rfl rfl ?_
      refine sp_aload_n 61 rfl rfl rfl ?_
      refine sp_dup 62 rfl rfl rfl ?_
      refine hq_getI 65 rfl (kC0 h_o) rfl ?_
      refine sp_iconst 66 rfl rfl ?_
      refine sp_iadd 67 rfl rfl ?_
      refine hq_putI 70 rfl (kC0 h_o) rfl ?_
      refine sp_aload_n 71 rfl rfl rfl ?_
      refine sp_iload_n 72 rfl rfl rfl ?_
      refine hq_putI 75 rfl (kC0 h_o) rfl ?_
      refine sp_iload_n 76 rfl rfl rfl ?_
      refine sp_if_eq 79 rfl rfl (fun _ => ?_) (fun q => absurd q (by decide))
      refine sp_aload_n 89 rfl rfl rfl ?_
      refine sp_iload 91 rfl rfl rfl ?_
      refine hq_putI 94 rfl (kC0 h_o) rfl ?_
      refine sp_aload_n 95 rfl rfl rfl ?_
      refine sp_aload_n 96 rfl rfl rfl ?_
      refine sp_iload 98 rfl rfl rfl ?_
      refine sc_V 101 rfl rfl (kC0 h_o) rfl rfl (Nat.le_refl _) (Nat.le_refl _) rfl ?_
      refine mm_s_mono _ _ _ _ _ _ ?_ k
      rintro r_ h_ ⟨I3, J3, rfl, rfl, k⟩
      exact st_vret rfl rfl (Nat.le_refl _) (Nat.le_refl _) k
    · have k := k.1 q
      refine sp_iconst 34 rfl rfl ?_
      refine sp_goto rfl ?_
      refine sp_istore 40 rfl rfl rfl ?_
      refine sp_aload_n 41 rfl rfl rfl ?_
      refine hq_getJ 44 rfl (kC0 h_o) rfl ?_
      refine sp_aload_n 45 rfl rfl rfl ?_
      refine sp_aload_n 46 rfl rfl rfl ?_
      refine sp_iload_n 47 rfl rfl rfl ?_
      refine sp_iload 49 rfl rfl rfl ?_
      refine sc_V 52 rfl rfl (kC0 h_o) rfl rfl (Nat.le_refl _) (Nat.le_refl _) rfl ?_
      refine cy_X1_firstLook h_a0 h_o ?_
      refine sp_iload 54 rfl rfl rfl ?_
      refine sp_iload_n 55 rfl rfl rfl ?_
      refine sc_S 58 rfl rfl rfl rfl (Nat.le_refl _) (Nat.le_refl _) rfl ?_
      refine mm_s_mono _ _ _ _ _ _ ?_ k
      rintro r_ h_ ⟨x4, I4, J4, rfl, rfl, k⟩
      refine sp_istore 60 rfl rfl rfl ?_
      refine sp_aload_n 61 rfl rfl rfl ?_
      refine sp_dup 62 rfl rfl rfl ?_
      refine hq_getI 65 rfl (kC0 h_o) rfl ?_
      refine sp_iconst 66 rfl rfl ?_
      refine sp_iadd 67 rfl rfl ?_
      refine hq_putI 70 rfl (kC0 h_o) rfl ?_
      refine sp_aload_n 71 rfl rfl rfl ?_
      refine sp_iload_n 72 rfl rfl rfl ?_
      refine hq_putI 75 rfl (kC0 h_o) rfl ?_
      refine sp_iload_n 76 rfl rfl rfl ?_
      refine sp_if_eq 79 rfl rfl (fun _ => ?_) (fun q => absurd q (by decide))
      refine sp_aload_n 89 rfl rfl rfl ?_
      refine sp_iload 91 rfl rfl rfl ?_
      refine hq_putI 94 rfl (kC0 h_o) rfl ?_
      refine sp_aload_n 95 rfl rfl rfl ?_
      refine sp_aload_n 96 rfl rfl rfl ?_
      refine sp_iload 98 rfl rfl rfl ?_
      refine sc_V 101 rfl rfl (kC0 h_o) rfl rfl (Nat.le_refl _) (Nat.le_refl _) rfl ?_
      refine mm_s_mono _ _ _ _ _ _ ?_ k
      rintro r_ h_ ⟨I5, J5, rfl, rfl, k⟩
      exact st_vret rfl rfl (Nat.le_refl _) (Nat.le_refl _) k
  · have k := k.2 q
    refine sp_aload_n 9 rfl rfl rfl ?_
    refine hq_getI 12 rfl (kC0 h_o) rfl ?_
    refine sp_iconst 13 rfl rfl ?_
    refine sp_irem 14 rfl (by decide) rfl ?_
    refine sp_iconst 15 rfl rfl ?_
    refine sp_ic_ne 18 rfl rfl (fun q => ?_) (fun q => ?_)
    · have k := k.2 q
      refine sp_iconst 23 rfl rfl ?_
      refine sp_istore_n 24 rfl rfl rfl ?_
      refine sp_iload_n 25 rfl rfl rfl ?_
      refine sp_aload_n 26 rfl rfl rfl ?_
      refine sp_aload_n 27 rfl rfl rfl ?_
      refine sc_V 30 rfl rfl (kC0 h_o) rfl rfl (Nat.le_refl _) (Nat.le_refl _) rfl ?_
      refine mm_s_mono _ _ _ _ _ _ ?_ k
      rintro r_ h_ ⟨x6, I6, J6, rfl, rfl, k⟩
      refine sp_ic_ne 33 rfl rfl (fun q => ?_) (fun q => ?_)
      · have k := k.2 q
        refine sp_iconst 38 rfl rfl ?_
        refine sp_istore 40 rfl rfl rfl ?_
        refine sp_aload_n 41 rfl rfl rfl ?_
        refine hq_getJ 44 rfl (kC0 h_o) rfl ?_
        refine sp_aload_n 45 rfl rfl rfl ?_
        refine sp_aload_n 46 rfl rfl rfl ?_
        refine sp_iload_n 47 rfl rfl rfl ?_
        refine sp_iload 49 rfl rfl rfl ?_
        refine sc_V 52 rfl rfl (kC0 h_o) rfl rfl (Nat.le_refl _) (Nat.le_refl _) rfl ?_
        refine cy_X1_firstLook h_a0 h_o ?_
        refine sp_iload 54 rfl rfl rfl ?_
        refine sp_iload_n 55 rfl rfl rfl ?_
        refine sc_S 58 rfl rfl rfl rfl (Nat.le_refl _) (Nat.le_refl _) rfl ?_
        refine mm_s_mono _ _ _ _ _ _ ?_ k
        rintro r_ h_ ⟨x7, I7, J7, rfl, rfl, k⟩
        refine sp_istore 60 rfl rfl rfl ?_
        refine sp_aload_n 61 rfl rfl rfl ?_
        refine sp_dup 62 rfl rfl rfl ?_
        refine hq_getI 65 rfl (kC0 h_o) rfl ?_
        refine sp_iconst 66 rfl rfl ?_
        refine sp_iadd 67 rfl rfl ?_
        refine hq_putI 70 rfl (kC0 h_o) rfl ?_
        refine sp_aload_n 71 rfl rfl rfl ?_
        refine sp_iload_n 72 rfl rfl rfl ?_
        refine hq_putI 75 rfl (kC0 h_o) rfl ?_
        refine sp_iload_n 76 rfl rfl rfl ?_
        refine sp_if_eq 79 rfl rfl (fun _ => ?_) (fun q => absurd q (by decide))
        refine sp_aload_n 89 rfl rfl rfl ?_
        refine sp_iload 91 rfl rfl rfl ?_
        refine hq_putI 94 rfl (kC0 h_o) rfl ?_
        refine sp_aload_n 95 rfl rfl rfl ?_
        refine sp_aload_n 96 rfl rfl rfl ?_
        refine sp_iload 98 rfl rfl rfl ?_
        refine sc_V 101 rfl rfl (kC0 h_o) rfl rfl (Nat.le_refl _) (Nat.le_refl _) rfl ?_
        refine mm_s_mono _ _ _ _ _ _ ?_ k
        rintro r_ h_ ⟨I8, J8, rfl, rfl, k⟩
        exact st_vret rfl rfl (Nat.le_refl _) (Nat.le_refl _) k
      · have k := k.1 q
        refine sp_iconst 34 rfl rfl ?_
        refine sp_goto rfl ?_
        refine sp_istore 40 rfl rfl rfl ?_
        refine sp_aload_n 41 rfl rfl rfl ?_
        refine hq_getJ 44 rfl (kC0 h_o) rfl ?_
        refine sp_aload_n 45 rfl rfl rfl ?_
        refine sp_aload_n 46 rfl rfl rfl ?_
        refine sp_iload_n 47 rfl rfl rfl ?_
        refine sp_iload 49 rfl rfl rfl ?_
        refine sc_V 52 rfl rfl (kC0 h_o) rfl rfl (Nat.le_refl _) (Nat.le_refl _) rfl ?_
        refine cy_X1_firstLook h_a0 h_o ?_
        refine sp_iload 54 rfl rfl rfl ?_
        refine sp_iload_n 55 rfl rfl rfl ?_
        refine sc_S 58 rfl rfl rfl rfl (Nat.le_refl _) (Nat.le_refl _) rfl ?_
        refine mm_s_mono _ _ _ _ _ _ ?_ k
        rintro r_ h_ ⟨x9, I9, J9, rfl, rfl, k⟩
        refine sp_istore 60 rfl rfl rfl ?_
        refine sp_aload_n 61 rfl rfl rfl ?_
        refine sp_dup 62 rfl rfl rfl ?_
        refine hq_getI 65 rfl (kC0 h_o) rfl ?_
        refine sp_iconst 66 rfl rfl ?_
        refine sp_iadd 67 rfl rfl ?_
        refine hq_putI 70 rfl (kC0 h_o) rfl ?_
        refine sp_aload_n 71 rfl rfl rfl ?_
        refine sp_iload_n 72 rfl rfl rfl ?_
        refine hq_putI 75 rfl (kC0 h_o) rfl ?_
        refine sp_iload_n 76 rfl rfl rfl ?_
        refine sp_if_eq 79 rfl rfl (fun _ => ?_) (fun q => absurd q (by decide))
        refine sp_aload_n 89 rfl rfl rfl ?_
        refine sp_iload 91 rfl rfl rfl ?_
        refine hq_putI 94 rfl (kC0 h_o) rfl ?_
        refine sp_aload_n 95 rfl rfl rfl ?_
        refine sp_aload_n 96 rfl rfl rfl ?_
        refine sp_iload 98 rfl rfl rfl ?_
        refine sc_V 101 rfl rfl (kC0 h_o) rfl rfl (Nat.le_refl _) (Nat.le_refl _) rfl ?_
        refine mm_s_mono _ _ _ _ _ _ ?_ k
        rintro r_ h_ ⟨I10, J10, rfl, rfl, k⟩
        exact st_vret rfl rfl (Nat.le_refl _) (Nat.le_refl _) k
    · have k := k.1 q
      refine sp_iconst 19 rfl rfl ?_
      refine sp_goto rfl ?_
      refine sp_istore_n 24 rfl rfl rfl ?_
      refine sp_iload_n 25 rfl rfl rfl ?_
      refine sp_aload_n 26 rfl rfl rfl ?_
      refine sp_aload_n 27 rfl rfl rfl ?_
      refine sc_V 30 rfl rfl (kC0 h_o) rfl rfl (Nat.le_refl _) (Nat.le_refl _) rfl ?_
      refine mm_s_mono _ _ _ _ _ _ ?_ k
      rintro r_ h_ ⟨x11, I11, J11, rfl, rfl, k⟩
      refine sp_ic_ne 33 rfl rfl (fun q => ?_) (fun q => ?_)
      · have k := k.2 q
        refine sp_iconst 38 rfl rfl ?_
        refine sp_istore 40 rfl rfl rfl ?_
        refine sp_aload_n 41 rfl rfl rfl ?_
        refine hq_getJ 44 rfl (kC0 h_o) rfl ?_
        refine sp_aload_n 45 rfl rfl rfl ?_
        refine sp_aload_n 46 rfl rfl rfl ?_
        refine sp_iload_n 47 rfl rfl rfl ?_
        refine sp_iload 49 rfl rfl rfl ?_
        refine sc_V 52 rfl rfl (kC0 h_o) rfl rfl (Nat.le_refl _) (Nat.le_refl _) rfl ?_
        refine cy_X1_firstLook h_a0 h_o ?_
        refine sp_iload 54 rfl rfl rfl ?_
        refine sp_iload_n 55 rfl rfl rfl ?_
        refine sc_S 58 rfl rfl rfl rfl (Nat.le_refl _) (Nat.le_refl _) rfl ?_
        refine mm_s_mono _ _ _ _ _ _ ?_ k
        rintro r_ h_ ⟨x12, I12, J12, rfl, rfl, k⟩
        refine sp_istore 60 rfl rfl rfl ?_
        refine sp_aload_n 61 rfl rfl rfl ?_
        refine sp_dup 62 rfl rfl rfl ?_
        refine hq_getI 65 rfl (kC0 h_o) rfl ?_
        refine sp_iconst 66 rfl rfl ?_
        refine sp_iadd 67 rfl rfl ?_
        refine hq_putI 70 rfl (kC0 h_o) rfl ?_
        refine sp_aload_n 71 rfl rfl rfl ?_
        refine sp_iload_n 72 rfl rfl rfl ?_
        refine hq_putI 75 rfl (kC0 h_o) rfl ?_
        refine sp_iload_n 76 rfl rfl rfl ?_
        refine sp_if_eq 79 rfl rfl (fun q => absurd q (by decide)) (fun _ => ?_)
        refine sp_aload_n 80 rfl rfl rfl ?_
        refine sp_iload 82 rfl rfl rfl ?_
        refine hq_putI 85 rfl (kC0 h_o) rfl ?_
        refine sp_goto rfl ?_
        refine sp_aload_n 95 rfl rfl rfl ?_
        refine sp_aload_n 96 rfl rfl rfl ?_
        refine sp_iload 98 rfl rfl rfl ?_
        refine sc_V 101 rfl rfl (kC0 h_o) rfl rfl (Nat.le_refl _) (Nat.le_refl _) rfl ?_
        refine mm_s_mono _ _ _ _ _ _ ?_ k
        rintro r_ h_ ⟨I13, J13, rfl, rfl, k⟩
        exact st_vret rfl rfl (Nat.le_refl _) (Nat.le_refl _) k
      · have k := k.1 q
        refine sp_iconst 34 rfl rfl ?_
        refine sp_goto rfl ?_
        refine sp_istore 40 rfl rfl rfl ?_
        refine sp_aload_n 41 rfl rfl rfl ?_
        refine hq_getJ 44 rfl (kC0 h_o) rfl ?_
        refine sp_aload_n 45 rfl rfl rfl ?_
        refine sp_aload_n 46 rfl rfl rfl ?_
        refine sp_iload_n 47 rfl rfl rfl ?_
        refine sp_iload 49 rfl rfl rfl ?_
        refine sc_V 52 rfl rfl (kC0 h_o) rfl rfl (Nat.le_refl _) (Nat.le_refl _) rfl ?_
        refine cy_X1_firstLook h_a0 h_o ?_
        refine sp_iload 54 rfl rfl rfl ?_
        refine sp_iload_n 55 rfl rfl rfl ?_
        refine sc_S 58 rfl rfl rfl rfl (Nat.le_refl _) (Nat.le_refl _) rfl ?_
        refine mm_s_mono _ _ _ _ _ _ ?_ k
        rintro r_ h_ ⟨x14, I14, J14, rfl, rfl, k⟩
        refine sp_istore 60 rfl rfl rfl ?_
        refine sp_aload_n 61 rfl rfl rfl ?_
        refine sp_dup 62 rfl rfl rfl ?_
        refine hq_getI 65 rfl (kC0 h_o) rfl ?_
        refine sp_iconst 66 rfl rfl ?_
        refine sp_iadd 67 rfl rfl ?_
        refine hq_putI 70 rfl (kC0 h_o) rfl ?_
        refine sp_aload_n 71 rfl rfl rfl ?_
        refine sp_iload_n 72 rfl rfl rfl ?_
        refine hq_putI 75 rfl (kC0 h_o) rfl ?_
        refine sp_iload_n 76 rfl rfl rfl ?_
        refine sp_if_eq 79 rfl rfl (fun q => absurd q (by decide)) (fun _ => ?_)
        refine sp_aload_n 80 rfl rfl rfl ?_
        refine sp_iload 82 rfl rfl rfl ?_
        refine hq_putI 85 rfl (kC0 h_o) rfl ?_
        refine sp_goto rfl ?_
        refine sp_aload_n 95 rfl rfl rfl ?_
        refine sp_aload_n 96 rfl rfl rfl ?_
        refine sp_iload 98 rfl rfl rfl ?_
        refine sc_V 101 rfl rfl (kC0 h_o) rfl rfl (Nat.le_refl _) (Nat.le_refl _) rfl ?_
        refine mm_s_mono _ _ _ _ _ _ ?_ k
        rintro r_ h_ ⟨I15, J15, rfl, rfl, k⟩
        exact st_vret rfl rfl (Nat.le_refl _) (Nat.le_refl _) k
def w_X3_isBy_15 (SL : Nat) (xs : Nat → Int32) (d : Nat) (p s q : Nat) (Q : Option Value → mm_H → Prop) (v1 : Int32) (v2 : Int32) (v3 : Int32) (v4 : Int32) (v5 : Int64) (v7 : Int32) (v8 : Int32) (v9 : Int32) (I : Nat → Nat → Int32) (J : Nat → Nat → Int64) : Prop := mm_w SL xs (mm_s SL xs (d + 4)) mm_am kX3_isBy 0 0 (some .boolean) Q 15 [some (.ref 29), some (.int v1), some (.int v2), some (.int v3), some (.int v4), some (.long v5), none, some (.int v7), some (.int v8), some (.int v9), none] [] (hp p s q I J) 0 0
theorem sg_X3_isBy {SL : Nat} {xs : Nat → Int32} {d : Nat} {p s q : Nat} {Q : Option Value → mm_H → Prop} {a0 : Int32} {a1 : Int32} {a2 : Int32} {a3 : Int32} {I : Nat → Nat → Int32} {J : Nat → Nat → Int64}  (k : w_X3_isBy_15 SL xs d p s q Q a0 a1 a2 a3 (sx_X6_all a0) (Int32.ofInt 1) (Int32.ofInt 0) (Int32.ofInt 0) I J) : mm_s SL xs (d + 5) 39 [.ref 29, .int a0, .int a1, .int a2, .int a3] (hp p s q I J) Q := by
  refine e_X3_isBy rfl ?_
  refine sp_iload_n 1 rfl rfl rfl ?_
  refine sc_S 4 rfl rfl rfl rfl (Nat.le_refl _) (Nat.le_refl _) rfl ?_
  refine cx_X6_all ?_
  refine sp_lstore 6 rfl rfl rfl ?_
  refine sp_iconst 7 rfl rfl ?_
  refine sp_istore 9 rfl rfl rfl ?_
  refine sp_iconst 10 rfl rfl ?_
  refine sp_istore 12 rfl rfl rfl ?_
  refine sp_iconst 13 rfl rfl ?_
  refine sp_istore 15 rfl rfl rfl ?_
  exact k
theorem sg_X3_isBy_15 {SL : Nat} {xs : Nat → Int32} {d : Nat} {p s q : Nat} {Q : Option Value → mm_H → Prop} {v1 : Int32} {v2 : Int32} {v3 : Int32} {v4 : Int32} {v5 : Int64} {v7 : Int32} {v8 : Int32} {v9 : Int32} {I : Nat → Nat → Int32} {J : Nat → Nat → Int64}  (k : (((I 29 1) ≤ v9 → Q (some (.int (Int32.ofInt 1))) (hp p s q I J)) ∧ (¬ ((I 29 1) ≤ v9) → (((Int32.ofInt 60) ≤ v9 → Q (some (.int (Int32.ofInt 1))) (hp p s q I J)) ∧ (¬ ((Int32.ofInt 60) ≤ v9) → (((v9 - v9 / (Int32.ofInt 2) * (Int32.ofInt 2)) = Int32.ofInt 0 → (mm_s SL xs (d + 4) 70 [.long v5, .int v8, .int v7, .int v2] (hp p s q I J) (fun r_ h_ => ∃ x2 I2 J2, r_ = some (.int x2) ∧ h_ = hp p s q I2 J2 ∧ (vp_in v9 60 ∧ ((x2 = (I2 30 ((v9).toNatClampNeg)) → ((v4 ≤ Int32.ofInt 0 → w_X3_isBy_15 SL xs d p s q Q v1 v2 v3 v4 (v5 &&& ((sx_X6_bit x2) ^^^ (Int64.ofInt (-1)))) v7 (sx_X6_next x2 v1 v7) (v9 + Int32.ofInt 1) I2 J2) ∧ (¬ (v4 ≤ Int32.ofInt 0) → (¬ v4 = 0 ∧ ((((v9 + (Int32.ofInt 1)) - (v9 + (Int32.ofInt 1)) / v4 * v4) = Int32.ofInt 0 → ((v7 = Int32.ofInt 0 → w_X3_isBy_15 SL xs d p s q Q v1 v2 v3 v4 (v5 &&& ((sx_X6_bit x2) ^^^ (Int64.ofInt (-1)))) (Int32.ofInt 1) (sx_X6_next x2 v1 (Int32.ofInt 1)) (v9 + Int32.ofInt 1) I2 J2) ∧ (¬ (v7 = Int32.ofInt 0) → w_X3_isBy_15 SL xs d p s q Q v1 v2 v3 v4 (v5 &&& ((sx_X6_bit x2) ^^^ (Int64.ofInt (-1)))) (Int32.ofInt 0) (sx_X6_next x2 v1 (Int32.ofInt 0)) (v9 + Int32.ofInt 1) I2 J2))) ∧ (¬ (((v9 + (Int32.ofInt 1)) - (v9 + (Int32.ofInt 1)) / v4 * v4) = Int32.ofInt 0) → w_X3_isBy_15 SL xs d p s q Q v1 v2 v3 v4 (v5 &&& ((sx_X6_bit x2) ^^^ (Int64.ofInt (-1)))) v7 (sx_X6_next x2 v1 v7) (v9 + Int32.ofInt 1) I2 J2)))))) ∧ (¬ (x2 = (I2 30 ((v9).toNatClampNeg))) → Q (some (.int (Int32.ofInt 0))) (hp p s q I2 J2))))))) ∧ (¬ ((v9 - v9 / (Int32.ofInt 2) * (Int32.ofInt 2)) = Int32.ofInt 0) → (mm_s SL xs (d + 4) 70 [.long v5, .int v8, .int v7, .int v3] (hp p s q I J) (fun r_ h_ => ∃ x1 I1 J1, r_ = some (.int x1) ∧ h_ = hp p s q I1 J1 ∧ (vp_in v9 60 ∧ ((x1 = (I1 30 ((v9).toNatClampNeg)) → ((v4 ≤ Int32.ofInt 0 → w_X3_isBy_15 SL xs d p s q Q v1 v2 v3 v4 (v5 &&& ((sx_X6_bit x1) ^^^ (Int64.ofInt (-1)))) v7 (sx_X6_next x1 v1 v7) (v9 + Int32.ofInt 1) I1 J1) ∧ (¬ (v4 ≤ Int32.ofInt 0) → (¬ v4 = 0 ∧ ((((v9 + (Int32.ofInt 1)) - (v9 + (Int32.ofInt 1)) / v4 * v4) = Int32.ofInt 0 → ((v7 = Int32.ofInt 0 → w_X3_isBy_15 SL xs d p s q Q v1 v2 v3 v4 (v5 &&& ((sx_X6_bit x1) ^^^ (Int64.ofInt (-1)))) (Int32.ofInt 1) (sx_X6_next x1 v1 (Int32.ofInt 1)) (v9 + Int32.ofInt 1) I1 J1) ∧ (¬ (v7 = Int32.ofInt 0) → w_X3_isBy_15 SL xs d p s q Q v1 v2 v3 v4 (v5 &&& ((sx_X6_bit x1) ^^^ (Int64.ofInt (-1)))) (Int32.ofInt 0) (sx_X6_next x1 v1 (Int32.ofInt 0)) (v9 + Int32.ofInt 1) I1 J1))) ∧ (¬ (((v9 + (Int32.ofInt 1)) - (v9 + (Int32.ofInt 1)) / v4 * v4) = Int32.ofInt 0) → w_X3_isBy_15 SL xs d p s q Q v1 v2 v3 v4 (v5 &&& ((sx_X6_bit x1) ^^^ (Int64.ofInt (-1)))) v7 (sx_X6_next x1 v1 v7) (v9 + Int32.ofInt 1) I1 J1)))))) ∧ (¬ (x1 = (I1 30 ((v9).toNatClampNeg))) → Q (some (.int (Int32.ofInt 0))) (hp p s q I1 J1))))))))))))) : w_X3_isBy_15 SL xs d p s q Q v1 v2 v3 v4 v5 v7 v8 v9 I J := by
  unfold w_X3_isBy_15
  refine sp_iload 17 rfl rfl rfl ?_
  refine sp_aload_n 18 rfl rfl rfl ?_
  refine hq_getI 21 rfl rfl rfl ?_
  refine sp_ic_ge 24 rfl rfl (fun q => ?_) (fun q => ?_)
  · have k := k.1 q
    refine sp_iconst 126 rfl rfl ?_
    exact st_zret rfl rfl (by decide) (Nat.le_refl _) (Nat.le_refl _) k
  · have k := k.2 q
    refine sp_iload 26 rfl rfl rfl ?_
    refine sp_bipush 28 rfl rfl ?_
    refine sp_I (y := Int32.ofInt 60) rfl ?_
    refine sp_ic_ge 31 rfl rfl (fun q => ?_) (fun q => ?_)
    · have k := k.1 q
      refine sp_iconst 126 rfl rfl ?_
      exact st_zret rfl rfl (by decide) (Nat.le_refl _) (Nat.le_refl _) k
    · have k := k.2 q
      refine sp_lload 33 rfl rfl rfl ?_
      refine sp_iload 35 rfl rfl rfl ?_
      refine sp_iload 37 rfl rfl rfl ?_
      refine sp_iload 39 rfl rfl rfl ?_
      refine sp_iconst 40 rfl rfl ?_
      refine sp_irem 41 rfl (by decide) rfl ?_
      refine sp_if_ne 44 rfl rfl (fun q => ?_) (fun q => ?_)
      · have k := k.2 q
        refine sp_iload_n 49 rfl rfl rfl ?_
        refine sc_S 52 rfl rfl rfl rfl (Nat.le_refl _) (Nat.le_refl _) rfl ?_
        refine mm_s_mono _ _ _ _ _ _ ?_ k
        rintro r_ h_ ⟨x1, I1, J1, rfl, rfl, k⟩
        refine sp_istore 54 rfl rfl rfl ?_
        refine sp_iload 56 rfl rfl rfl ?_
        refine sp_aload_n 57 rfl rfl rfl ?_
        refine hq_getR 60 rfl rfl rfl rfl ?_
        refine sp_iload 62 rfl rfl rfl ?_
        have n1_ := k.1
        have k := k.2
        refine hq_iald 63 rfl rfl n1_ rfl ?_
        refine sp_ic_eq 66 rfl rfl (fun q => ?_) (fun q => ?_)
        · have k := k.1 q
          refine sp_lload 70 rfl rfl rfl ?_
          refine sp_iload 72 rfl rfl rfl ?_
          refine sc_S 75 rfl rfl rfl rfl (Nat.le_refl _) (Nat.le_refl _) rfl ?_
          refine cx_X6_bit ?_
          refine sp_ldc2 78 rfl rfl ?_
          refine sp_lxor 79 rfl rfl ?_
          refine sp_land 80 rfl rfl ?_
          refine sp_lstore 82 rfl rfl rfl ?_
          refine sp_iload 84 rfl rfl rfl ?_
          refine sp_if_le 87 rfl rfl (fun q => ?_) (fun q => ?_)
          · have k := k.1 q
            refine sp_iload 111 rfl rfl rfl ?_
            refine sp_iload_n 112 rfl rfl rfl ?_
            refine sp_iload 114 rfl rfl rfl ?_
            refine sc_S 117 rfl rfl rfl rfl (Nat.le_refl _) (Nat.le_refl _) rfl ?_
            refine cx_X6_next ?_
            refine sp_istore 119 rfl rfl rfl ?_
            refine sp_iinc 122 rfl rfl rfl rfl ?_
            refine sp_goto rfl ?_
            refine st_wk (L1 := [some (.ref 29), some (.int v1), some (.int v2), some (.int v3), some (.int v4), some (.long (v5 &&& ((sx_X6_bit x1) ^^^ (Int64.ofInt (-1))))), none, some (.int v7), some (.int (sx_X6_next x1 v1 v7)), some (.int (v9 + Int32.ofInt 1)), none]) ⟨.inr rfl, .inr rfl, .inr rfl, .inr rfl, .inr rfl, .inr rfl, .inl rfl, .inr rfl, .inr rfl, .inr rfl, .inl rfl, trivial⟩ ?_
            exact k
          · have k := k.2 q
            refine sp_iload 89 rfl rfl rfl ?_
            refine sp_iconst 90 rfl rfl ?_
            refine sp_iadd 91 rfl rfl ?_
            refine sp_iload 93 rfl rfl rfl ?_
            have n2_ := k.1
            have k := k.2
            refine sp_irem 94 rfl n2_ rfl ?_
            refine sp_if_ne 97 rfl rfl (fun q => ?_) (fun q => ?_)
            · have k := k.2 q
              refine sp_iload 111 rfl rfl rfl ?_
              refine sp_iload_n 112 rfl rfl rfl ?_
              refine sp_iload 114 rfl rfl rfl ?_
              refine sc_S 117 rfl rfl rfl rfl (Nat.le_refl _) (Nat.le_refl _) rfl ?_
              refine cx_X6_next ?_
              refine sp_istore 119 rfl rfl rfl ?_
              refine sp_iinc 122 rfl rfl rfl rfl ?_
              refine sp_goto rfl ?_
              refine st_wk (L1 := [some (.ref 29), some (.int v1), some (.int v2), some (.int v3), some (.int v4), some (.long (v5 &&& ((sx_X6_bit x1) ^^^ (Int64.ofInt (-1))))), none, some (.int v7), some (.int (sx_X6_next x1 v1 v7)), some (.int (v9 + Int32.ofInt 1)), none]) ⟨.inr rfl, .inr rfl, .inr rfl, .inr rfl, .inr rfl, .inr rfl, .inl rfl, .inr rfl, .inr rfl, .inr rfl, .inl rfl, trivial⟩ ?_
              exact k
            · have k := k.1 q
              refine sp_iload 99 rfl rfl rfl ?_
              refine sp_if_ne 102 rfl rfl (fun q => ?_) (fun q => ?_)
              · have k := k.2 q
                refine sp_iconst 107 rfl rfl ?_
                refine sp_istore 109 rfl rfl rfl ?_
                refine sp_iload 111 rfl rfl rfl ?_
                refine sp_iload_n 112 rfl rfl rfl ?_
                refine sp_iload 114 rfl rfl rfl ?_
                refine sc_S 117 rfl rfl rfl rfl (Nat.le_refl _) (Nat.le_refl _) rfl ?_
                refine cx_X6_next ?_
                refine sp_istore 119 rfl rfl rfl ?_
                refine sp_iinc 122 rfl rfl rfl rfl ?_
                refine sp_goto rfl ?_
                refine st_wk (L1 := [some (.ref 29), some (.int v1), some (.int v2), some (.int v3), some (.int v4), some (.long (v5 &&& ((sx_X6_bit x1) ^^^ (Int64.ofInt (-1))))), none, some (.int (Int32.ofInt 0)), some (.int (sx_X6_next x1 v1 (Int32.ofInt 0))), some (.int (v9 + Int32.ofInt 1)), none]) ⟨.inr rfl, .inr rfl, .inr rfl, .inr rfl, .inr rfl, .inr rfl, .inl rfl, .inr rfl, .inr rfl, .inr rfl, .inl rfl, trivial⟩ ?_
                exact k
              · have k := k.1 q
                refine sp_iconst 103 rfl rfl ?_
                refine sp_goto rfl ?_
                refine sp_istore 109 rfl rfl rfl ?_
                refine sp_iload 111 rfl rfl rfl ?_
                refine sp_iload_n 112 rfl rfl rfl ?_
                refine sp_iload 114 rfl rfl rfl ?_
                refine sc_S 117 rfl rfl rfl rfl (Nat.le_refl _) (Nat.le_refl _) rfl ?_
                refine cx_X6_next ?_
                refine sp_istore 119 rfl rfl rfl ?_
                refine sp_iinc 122 rfl rfl rfl rfl ?_
                refine sp_goto rfl ?_
                refine st_wk (L1 := [some (.ref 29), some (.int v1), some (.int v2), some (.int v3), some (.int v4), some (.long (v5 &&& ((sx_X6_bit x1) ^^^ (Int64.ofInt (-1))))), none, some (.int (Int32.ofInt 1)), some (.int (sx_X6_next x1 v1 (Int32.ofInt 1))), some (.int (v9 + Int32.ofInt 1)), none]) ⟨.inr rfl, .inr rfl, .inr rfl, .inr rfl, .inr rfl, .inr rfl, .inl rfl, .inr rfl, .inr rfl, .inr rfl, .inl rfl, trivial⟩ ?_
                exact k
        · have k := k.2 q
          refine sp_iconst 67 rfl rfl ?_
          exact st_zret rfl rfl (by decide) (Nat.le_refl _) (Nat.le_refl _) k
      · have k := k.1 q
        refine sp_iload_n 45 rfl rfl rfl ?_
        refine sp_goto rfl ?_
        refine sc_S 52 rfl rfl rfl rfl (Nat.le_refl _) (Nat.le_refl _) rfl ?_
        refine mm_s_mono _ _ _ _ _ _ ?_ k
        rintro r_ h_ ⟨x2, I2, J2, rfl, rfl, k⟩
        refine sp_istore 54 rfl rfl rfl ?_
        refine sp_iload 56 rfl rfl rfl ?_
        refine sp_aload_n 57 rfl rfl rfl ?_
        refine hq_getR 60 rfl rfl rfl rfl ?_
        refine sp_iload 62 rfl rfl rfl ?_
        have n3_ := k.1
        have k := k.2
        refine hq_iald 63 rfl rfl n3_ rfl ?_
        refine sp_ic_eq 66 rfl rfl (fun q => ?_) (fun q => ?_)
        · have k := k.1 q
          refine sp_lload 70 rfl rfl rfl ?_
          refine sp_iload 72 rfl rfl rfl ?_
          refine sc_S 75 rfl rfl rfl rfl (Nat.le_refl _) (Nat.le_refl _) rfl ?_
          refine cx_X6_bit ?_
          refine sp_ldc2 78 rfl rfl ?_
          refine sp_lxor 79 rfl rfl ?_
          refine sp_land 80 rfl rfl ?_
          refine sp_lstore 82 rfl rfl rfl ?_
          refine sp_iload 84 rfl rfl rfl ?_
          refine sp_if_le 87 rfl rfl (fun q => ?_) (fun q => ?_)
          · have k := k.1 q
            refine sp_iload 111 rfl rfl rfl ?_
            refine sp_iload_n 112 rfl rfl rfl ?_
            refine sp_iload 114 rfl rfl rfl ?_
            refine sc_S 117 rfl rfl rfl rfl (Nat.le_refl _) (Nat.le_refl _) rfl ?_
            refine cx_X6_next ?_
            refine sp_istore 119 rfl rfl rfl ?_
            refine sp_iinc 122 rfl rfl rfl rfl ?_
            refine sp_goto rfl ?_
            refine st_wk (L1 := [some (.ref 29), some (.int v1), some (.int v2), some (.int v3), some (.int v4), some (.long (v5 &&& ((sx_X6_bit x2) ^^^ (Int64.ofInt (-1))))), none, some (.int v7), some (.int (sx_X6_next x2 v1 v7)), some (.int (v9 + Int32.ofInt 1)), none]) ⟨.inr rfl, .inr rfl, .inr rfl, .inr rfl, .inr rfl, .inr rfl, .inl rfl, .inr rfl, .inr rfl, .inr rfl, .inl rfl, trivial⟩ ?_
            exact k
          · have k := k.2 q
            refine sp_iload 89 rfl rfl rfl ?_
            refine sp_iconst 90 rfl rfl ?_
            refine sp_iadd 91 rfl rfl ?_
            refine sp_iload 93 rfl rfl rfl ?_
            have n4_ := k.1
            have k := k.2
            refine sp_irem 94 rfl n4_ rfl ?_
            refine sp_if_ne 97 rfl rfl (fun q => ?_) (fun q => ?_)
            · have k := k.2 q
              refine sp_iload 111 rfl rfl rfl ?_
              refine sp_iload_n 112 rfl rfl rfl ?_
              refine sp_iload 114 rfl rfl rfl ?_
              refine sc_S 117 rfl rfl rfl rfl (Nat.le_refl _) (Nat.le_refl _) rfl ?_
              refine cx_X6_next ?_
              refine sp_istore 119 rfl rfl rfl ?_
              refine sp_iinc 122 rfl rfl rfl rfl ?_
              refine sp_goto rfl ?_
              refine st_wk (L1 := [some (.ref 29), some (.int v1), some (.int v2), some (.int v3), some (.int v4), some (.long (v5 &&& ((sx_X6_bit x2) ^^^ (Int64.ofInt (-1))))), none, some (.int v7), some (.int (sx_X6_next x2 v1 v7)), some (.int (v9 + Int32.ofInt 1)), none]) ⟨.inr rfl, .inr rfl, .inr rfl, .inr rfl, .inr rfl, .inr rfl, .inl rfl, .inr rfl, .inr rfl, .inr rfl, .inl rfl, trivial⟩ ?_
              exact k
            · have k := k.1 q
              refine sp_iload 99 rfl rfl rfl ?_
              refine sp_if_ne 102 rfl rfl (fun q => ?_) (fun q => ?_)
              · have k := k.2 q
                refine sp_iconst 107 rfl rfl ?_
                refine sp_istore 109 rfl rfl rfl ?_
                refine sp_iload 111 rfl rfl rfl ?_
                refine sp_iload_n 112 rfl rfl rfl ?_
                refine sp_iload 114 rfl rfl rfl ?_
                refine sc_S 117 rfl rfl rfl rfl (Nat.le_refl _) (Nat.le_refl _) rfl ?_
                refine cx_X6_next ?_
                refine sp_istore 119 rfl rfl rfl ?_
                refine sp_iinc 122 rfl rfl rfl rfl ?_
                refine sp_goto rfl ?_
                refine st_wk (L1 := [some (.ref 29), some (.int v1), some (.int v2), some (.int v3), some (.int v4), some (.long (v5 &&& ((sx_X6_bit x2) ^^^ (Int64.ofInt (-1))))), none, some (.int (Int32.ofInt 0)), some (.int (sx_X6_next x2 v1 (Int32.ofInt 0))), some (.int (v9 + Int32.ofInt 1)), none]) ⟨.inr rfl, .inr rfl, .inr rfl, .inr rfl, .inr rfl, .inr rfl, .inl rfl, .inr rfl, .inr rfl, .inr rfl, .inl rfl, trivial⟩ ?_
                exact k
              · have k := k.1 q
                refine sp_iconst 103 rfl rfl ?_
                refine sp_goto rfl ?_
                refine sp_istore 109 rfl rfl rfl ?_
                refine sp_iload 111 rfl rfl rfl ?_
                refine sp_iload_n 112 rfl rfl rfl ?_
                refine sp_iload 114 rfl rfl rfl ?_
                refine sc_S 117 rfl rfl rfl rfl (Nat.le_refl _) (Nat.le_refl _) rfl ?_
                refine cx_X6_next ?_
                refine sp_istore 119 rfl rfl rfl ?_
                refine sp_iinc 122 rfl rfl rfl rfl ?_
                refine sp_goto rfl ?_
                refine st_wk (L1 := [some (.ref 29), some (.int v1), some (.int v2), some (.int v3), some (.int v4), some (.long (v5 &&& ((sx_X6_bit x2) ^^^ (Int64.ofInt (-1))))), none, some (.int (Int32.ofInt 1)), some (.int (sx_X6_next x2 v1 (Int32.ofInt 1))), some (.int (v9 + Int32.ofInt 1)), none]) ⟨.inr rfl, .inr rfl, .inr rfl, .inr rfl, .inr rfl, .inr rfl, .inl rfl, .inr rfl, .inr rfl, .inr rfl, .inl rfl, trivial⟩ ?_
                exact k
        · have k := k.2 q
          refine sp_iconst 67 rfl rfl ?_
          exact st_zret rfl rfl (by decide) (Nat.le_refl _) (Nat.le_refl _) k
def w_X4_leastSending_8 (SL : Nat) (xs : Nat → Int32) (d : Nat) (p s q : Nat) (Q : Option Value → mm_H → Prop) (v0 : Int32) (v1 : Int64) (v3 : Int32) (v4 : Int32) (I : Nat → Nat → Int32) (J : Nat → Nat → Int64) : Prop := mm_w SL xs (mm_s SL xs (d + 4)) mm_am kX4_leastSending 0 0 (some .int) Q 8 [some (.int v0), some (.long v1), none, some (.int v3), some (.int v4)] [] (hp p s q I J) 0 0
theorem sg_X4_leastSending {SL : Nat} {xs : Nat → Int32} {d : Nat} {p s q : Nat} {Q : Option Value → mm_H → Prop} {a0 : Int32} {a1 : Int64} {I : Nat → Nat → Int32} {J : Nat → Nat → Int64}  (k : w_X4_leastSending_8 SL xs d p s q Q a0 a1 (sx_J13_bitCount_95d88 a1) (Int32.ofInt 1) I J) : mm_s SL xs (d + 5) 44 [.int a0, .long a1] (hp p s q I J) Q := by
  refine e_X4_leastSending rfl ?_
  refine sp_lload_n 1 rfl rfl rfl ?_
  refine sc_S 4 rfl rfl rfl rfl (Nat.le_refl _) (Nat.le_refl _) rfl ?_
  refine cx_J13_bitCount_95d88 ?_
  refine sp_istore_n 5 rfl rfl rfl ?_
  refine sp_iconst 6 rfl rfl ?_
  refine sp_istore 8 rfl rfl rfl ?_
  exact k
theorem sg_X4_leastSending_8 {SL : Nat} {xs : Nat → Int32} {d : Nat} {p s q : Nat} {Q : Option Value → mm_H → Prop} {v0 : Int32} {v1 : Int64} {v3 : Int32} {v4 : Int32} {I : Nat → Nat → Int32} {J : Nat → Nat → Int64}  (k : (((Int32.ofInt 3000) < v4 → Q (some (.int (Int32.ofInt (-1)))) (hp p s q I J)) ∧ (¬ ((Int32.ofInt 3000) < v4) → (mm_s SL xs (d + 4) 45 [.int v0, .int v4, .long v1, .int v3] (hp p s q I J) (fun r_ h_ => ∃ x1 I1 J1, r_ = some (.int x1) ∧ h_ = hp p s q I1 J1 ∧ ((x1 = Int32.ofInt 0 → w_X4_leastSending_8 SL xs d p s q Q v0 v1 v3 (v4 + Int32.ofInt 1) I1 J1) ∧ (¬ (x1 = Int32.ofInt 0) → Q (some (.int v4)) (hp p s q I1 J1)))))))) : w_X4_leastSending_8 SL xs d p s q Q v0 v1 v3 v4 I J := by
  unfold w_X4_leastSending_8
  refine sp_iload 10 rfl rfl rfl ?_
  refine sp_sipush 13 rfl rfl ?_
  refine sp_I (y := Int32.ofInt 3000) rfl ?_
  refine sp_ic_gt 16 rfl rfl (fun q => ?_) (fun q => ?_)
  · have k := k.1 q
    refine sp_iconst 37 rfl rfl ?_
    exact st_iret rfl rfl (Nat.le_refl _) (Nat.le_refl _) k
  · have k := k.2 q
    refine sp_iload_n 17 rfl rfl rfl ?_
    refine sp_iload 19 rfl rfl rfl ?_
    refine sp_lload_n 20 rfl rfl rfl ?_
    refine sp_iload_n 21 rfl rfl rfl ?_
    refine sc_S 24 rfl rfl rfl rfl (Nat.le_refl _) (Nat.le_refl _) rfl ?_
    refine mm_s_mono _ _ _ _ _ _ ?_ k
    rintro r_ h_ ⟨x1, I1, J1, rfl, rfl, k⟩
    refine sp_if_eq 27 rfl rfl (fun q => ?_) (fun q => ?_)
    · have k := k.1 q
      refine sp_iinc 33 rfl rfl rfl rfl ?_
      refine sp_goto rfl ?_
      exact k
    · have k := k.2 q
      refine sp_iload 29 rfl rfl rfl ?_
      exact st_iret rfl rfl (Nat.le_refl _) (Nat.le_refl _) k
theorem sg_X7_readGuard {SL : Nat} {xs : Nat → Int32} {d : Nat} {p s q : Nat} {Q : Option Value → mm_H → Prop}  {I : Nat → Nat → Int32} {J : Nat → Nat → Int64} (h_q : isP q) (k : (mm_s SL xs (d + 4) 78 [.ref 3, .int (Int32.ofInt 0), .int (Int32.ofInt 59)] (hp p s q (mm_u I 3 5 ((I 3 5) + (Int32.ofInt 1))) J) (fun r_ h_ => ∃ x1 I1 J1, r_ = some (.int x1) ∧ h_ = hp p s q I1 J1 ∧ ((x1 = Int32.ofInt 0 → Q (some (.int (Int32.ofInt 0))) (hp p s q I1 J1)) ∧ (¬ (x1 = Int32.ofInt 0) → (mm_s SL xs (d + 4) 105 [.ref 4] (hp p s q I1 J1) (fun r_ h_ => ∃ I2 J2, r_ = none ∧ h_ = hp p s q I2 J2 ∧ (mm_s SL xs (d + 4) 75 [.ref 3, .int (Int32.ofInt 139)] (hp p s q I2 J2) (fun r_ h_ => ∃ x3 I3 J3, r_ = some (.int x3) ∧ h_ = hp p s q I3 J3 ∧ ((x3 = Int32.ofInt 0 → Q (some (.int (Int32.ofInt 0))) (hp p s q I3 J3)) ∧ (¬ (x3 = Int32.ofInt 0) → (mm_s SL xs (d + 4) 78 [.ref 3, .int (I1 4 4), .int (Int32.ofInt 59)] (hp p s q I3 J3) (fun r_ h_ => ∃ x4 I4 J4, r_ = some (.int x4) ∧ h_ = hp p s q I4 J4 ∧ ((x4 = Int32.ofInt 0 → Q (some (.int (Int32.ofInt 0))) (hp p s q I4 J4)) ∧ (¬ (x4 = Int32.ofInt 0) → (mm_s SL xs (d + 4) 105 [.ref 4] (hp p s q I4 (mm_u J4 q 6 ((J4 q 6) ||| ((sx_X6_all ((I4 4 4) + (Int32.ofInt 1))) &&& ((sx_X6_all (I1 4 4)) ^^^ (Int64.ofInt (-1))))))) (fun r_ h_ => ∃ I5 J5, r_ = none ∧ h_ = hp p s q I5 J5 ∧ Q (some (.int (Int32.ofInt 1))) (hp p s q I5 J5)))))))))))))))))) : mm_s SL xs (d + 5) 80 [.ref 3] (hp p s q I J) Q := by
  refine e_X7_readGuard rfl ?_
  refine sp_aload_n 1 rfl rfl rfl ?_
  refine sp_dup 2 rfl rfl rfl ?_
  refine hq_getI 5 rfl rfl rfl ?_
  refine sp_iconst 6 rfl rfl ?_
  refine sp_iadd 7 rfl rfl ?_
  refine hq_putI 10 rfl rfl rfl ?_
  refine sp_aload_n 11 rfl rfl rfl ?_
  refine sp_iconst 12 rfl rfl ?_
  refine sp_bipush 14 rfl rfl ?_
  refine sp_I (y := Int32.ofInt 59) rfl ?_
  refine sc_V 17 rfl rfl rfl rfl rfl (Nat.le_refl _) (Nat.le_refl _) rfl ?_
  refine mm_s_mono _ _ _ _ _ _ ?_ k
  rintro r_ h_ ⟨x1, I1, J1, rfl, rfl, k⟩
  refine sp_if_ne 20 rfl rfl (fun q => ?_) (fun q => ?_)
  · have k := k.2 q
    refine sp_aload_n 23 rfl rfl rfl ?_
    refine hq_getR 26 rfl rfl rfl rfl ?_
    refine hq_getI 29 rfl rfl rfl ?_
    refine sp_istore_n 30 rfl rfl rfl ?_
    refine sp_aload_n 31 rfl rfl rfl ?_
    refine hq_getR 34 rfl rfl rfl rfl ?_
    refine sc_V 37 rfl rfl rfl rfl rfl (Nat.le_refl _) (Nat.le_refl _) rfl ?_
    refine mm_s_mono _ _ _ _ _ _ ?_ k
    rintro r_ h_ ⟨I2, J2, rfl, rfl, k⟩
    refine sp_aload_n 38 rfl rfl rfl ?_
    refine sp_sipush 41 rfl rfl ?_
    refine sp_I (y := Int32.ofInt 139) rfl ?_
    refine sc_V 44 rfl rfl rfl rfl rfl (Nat.le_refl _) (Nat.le_refl _) rfl ?_
    refine mm_s_mono _ _ _ _ _ _ ?_ k
    rintro r_ h_ ⟨x3, I3, J3, rfl, rfl, k⟩
    refine sp_if_eq 47 rfl rfl (fun q => ?_) (fun q => ?_)
    · have k := k.1 q
      refine sp_iconst 58 rfl rfl ?_
      exact st_zret rfl rfl (by decide) (Nat.le_refl _) (Nat.le_refl _) k
    · have k := k.2 q
      refine sp_aload_n 48 rfl rfl rfl ?_
      refine sp_iload_n 49 rfl rfl rfl ?_
      refine sp_bipush 51 rfl rfl ?_
      refine sp_I (y := Int32.ofInt 59) rfl ?_
      refine sc_V 54 rfl rfl rfl rfl rfl (Nat.le_refl _) (Nat.le_refl _) rfl ?_
      refine mm_s_mono _ _ _ _ _ _ ?_ k
      rintro r_ h_ ⟨x4, I4, J4, rfl, rfl, k⟩
      refine sp_if_ne 57 rfl rfl (fun q => ?_) (fun q => ?_)
      · have k := k.2 q
        refine sp_aload_n 60 rfl rfl rfl ?_
        refine hq_getR 63 rfl rfl rfl rfl ?_
        refine sp_dup 64 rfl rfl rfl ?_
        refine hq_getJ 67 rfl (kP0 h_q) rfl ?_
        refine sp_aload_n 68 rfl rfl rfl ?_
        refine hq_getR 71 rfl rfl rfl rfl ?_
        refine hq_getI 74 rfl rfl rfl ?_
        refine sp_iconst 75 rfl rfl ?_
        refine sp_iadd 76 rfl rfl ?_
        refine sc_S 79 rfl rfl rfl rfl (Nat.le_refl _) (Nat.le_refl _) rfl ?_
        refine cx_X6_all ?_
        refine sp_iload_n 80 rfl rfl rfl ?_
        refine sc_S 83 rfl rfl rfl rfl (Nat.le_refl _) (Nat.le_refl _) rfl ?_
        refine cx_X6_all ?_
        refine sp_ldc2 86 rfl rfl ?_
        refine sp_lxor 87 rfl rfl ?_
        refine sp_land 88 rfl rfl ?_
        refine sp_lor 89 rfl rfl ?_
        refine hq_putJ 92 rfl (kP0 h_q) rfl ?_
        refine sp_aload_n 93 rfl rfl rfl ?_
        refine hq_getR 96 rfl rfl rfl rfl ?_
        refine sc_V 99 rfl rfl rfl rfl rfl (Nat.le_refl _) (Nat.le_refl _) rfl ?_
        refine mm_s_mono _ _ _ _ _ _ ?_ k
        rintro r_ h_ ⟨I5, J5, rfl, rfl, k⟩
        refine sp_iconst 100 rfl rfl ?_
        exact st_zret rfl rfl (by decide) (Nat.le_refl _) (Nat.le_refl _) k
      · have k := k.1 q
        refine sp_iconst 58 rfl rfl ?_
        exact st_zret rfl rfl (by decide) (Nat.le_refl _) (Nat.le_refl _) k
  · have k := k.1 q
    refine sp_iconst 21 rfl rfl ?_
    exact st_zret rfl rfl (by decide) (Nat.le_refl _) (Nat.le_refl _) k
theorem sg_X7_readPerson {SL : Nat} {xs : Nat → Int32} {d : Nat} {p s q : Nat} {Q : Option Value → mm_H → Prop}  {I : Nat → Nat → Int32} {J : Nat → Nat → Int64} (h_q : isP q) (k : (((I 4 2) = (Int32.ofInt 3) → (mm_s SL xs (d + 4) 53 [.ref q, .long (J 4 5)] (hp p s q I J) (fun r_ h_ => ∃ x1 I1 J1, r_ = some (.int x1) ∧ h_ = hp p s q I1 J1 ∧ ((x1 = Int32.ofInt 0 → (mm_s SL xs (d + 4) 105 [.ref 4] (hp p s q I1 J1) (fun r_ h_ => ∃ I2 J2, r_ = none ∧ h_ = hp p s q I2 J2 ∧ (mm_s SL xs (d + 4) 75 [.ref 3, .int (Int32.ofInt 140)] (hp p s q I2 J2) (fun r_ h_ => ∃ x3 I3 J3, r_ = some (.int x3) ∧ h_ = hp p s q I3 J3 ∧ ((x3 = Int32.ofInt 0 → Q (some (.int (Int32.ofInt 0))) (hp p s q I3 J3)) ∧ (¬ (x3 = Int32.ofInt 0) → (mm_s SL xs (d + 4) 78 [.ref 3, .int (Int32.ofInt 0), .int (Int32.ofInt 999)] (hp p s q I3 J3) (fun r_ h_ => ∃ x4 I4 J4, r_ = some (.int x4) ∧ h_ = hp p s q I4 J4 ∧ ((x4 = Int32.ofInt 0 → Q (some (.int (Int32.ofInt 0))) (hp p s q I4 J4)) ∧ (¬ (x4 = Int32.ofInt 0) → (mm_s SL xs (d + 4) 55 [.ref q, .long (J 4 5), .int (I4 4 4)] (hp p s q I4 J4) (fun r_ h_ => ∃ I5 J5, r_ = none ∧ h_ = hp p s q I5 J5 ∧ (mm_s SL xs (d + 4) 105 [.ref 4] (hp p s q I5 J5) (fun r_ h_ => ∃ I6 J6, r_ = none ∧ h_ = hp p s q I6 J6 ∧ Q (some (.int (Int32.ofInt 1))) (hp p s q I6 J6)))))))))))))))) ∧ (¬ (x1 = Int32.ofInt 0) → (mm_s SL xs (d + 4) 74 [.ref 3, .int (Int32.ofInt 3)] (hp p s q I1 J1) (fun r_ h_ => ∃ x7 I7 J7, r_ = some (.int x7) ∧ h_ = hp p s q I7 J7 ∧ ((x7 = 0 ∨ x7 = 1) ∧ Q (some (.int x7)) (hp p s q I7 J7))))))))) ∧ (¬ ((I 4 2) = (Int32.ofInt 3)) → (mm_s SL xs (d + 4) 74 [.ref 3, .int (Int32.ofInt 2)] (hp p s q I J) (fun r_ h_ => ∃ x8 I8 J8, r_ = some (.int x8) ∧ h_ = hp p s q I8 J8 ∧ ((x8 = 0 ∨ x8 = 1) ∧ Q (some (.int x8)) (hp p s q I8 J8))))))) : mm_s SL xs (d + 5) 82 [.ref 3] (hp p s q I J) Q := by
  refine e_X7_readPerson rfl ?_
  refine sp_aload_n 1 rfl rfl rfl ?_
  refine hq_getR 4 rfl rfl rfl rfl ?_
  refine hq_getI 7 rfl rfl rfl ?_
  refine sp_iconst 8 rfl rfl ?_
  refine sp_ic_eq 11 rfl rfl (fun q => ?_) (fun q => ?_)
  · have k := k.1 q
    refine sp_aload_n 18 rfl rfl rfl ?_
    refine hq_getR 21 rfl rfl rfl rfl ?_
    refine hq_getJ 24 rfl rfl rfl ?_
    refine sp_lstore_n 25 rfl rfl rfl ?_
    refine sp_aload_n 26 rfl rfl rfl ?_
    refine hq_getR 29 rfl rfl rfl rfl ?_
    refine sp_lload_n 30 rfl rfl rfl ?_
    refine sc_V 33 rfl rfl (kP0 h_q) rfl rfl (Nat.le_refl _) (Nat.le_refl _) rfl ?_
    refine mm_s_mono _ _ _ _ _ _ ?_ k
    rintro r_ h_ ⟨x1, I1, J1, rfl, rfl, k⟩
    refine sp_if_eq 36 rfl rfl (fun q => ?_) (fun q => ?_)
    · have k := k.1 q
      refine sp_aload_n 43 rfl rfl rfl ?_
      refine hq_getR 46 rfl rfl rfl rfl ?_
      refine sc_V 49 rfl rfl rfl rfl rfl (Nat.le_refl _) (Nat.le_refl _) rfl ?_
      refine mm_s_mono _ _ _ _ _ _ ?_ k
      rintro r_ h_ ⟨I2, J2, rfl, rfl, k⟩
      refine sp_aload_n 50 rfl rfl rfl ?_
      refine sp_sipush 53 rfl rfl ?_
      refine sp_I (y := Int32.ofInt 140) rfl ?_
      refine sc_V 56 rfl rfl rfl rfl rfl (Nat.le_refl _) (Nat.le_refl _) rfl ?_
      refine mm_s_mono _ _ _ _ _ _ ?_ k
      rintro r_ h_ ⟨x3, I3, J3, rfl, rfl, k⟩
      refine sp_if_eq 59 rfl rfl (fun q => ?_) (fun q => ?_)
      · have k := k.1 q
        refine sp_iconst 71 rfl rfl ?_
        exact st_zret rfl rfl (by decide) (Nat.le_refl _) (Nat.le_refl _) k
      · have k := k.2 q
        refine sp_aload_n 60 rfl rfl rfl ?_
        refine sp_iconst 61 rfl rfl ?_
        refine sp_sipush 64 rfl rfl ?_
        refine sp_I (y := Int32.ofInt 999) rfl ?_
        refine sc_V 67 rfl rfl rfl rfl rfl (Nat.le_refl _) (Nat.le_refl _) rfl ?_
        refine mm_s_mono _ _ _ _ _ _ ?_ k
        rintro r_ h_ ⟨x4, I4, J4, rfl, rfl, k⟩
        refine sp_if_ne 70 rfl rfl (fun q => ?_) (fun q => ?_)
        · have k := k.2 q
          refine sp_aload_n 73 rfl rfl rfl ?_
          refine hq_getR 76 rfl rfl rfl rfl ?_
          refine sp_lload_n 77 rfl rfl rfl ?_
          refine sp_aload_n 78 rfl rfl rfl ?_
          refine hq_getR 81 rfl rfl rfl rfl ?_
          refine hq_getI 84 rfl rfl rfl ?_
          refine sc_V 87 rfl rfl (kP0 h_q) rfl rfl (Nat.le_refl _) (Nat.le_refl _) rfl ?_
          refine mm_s_mono _ _ _ _ _ _ ?_ k
          rintro r_ h_ ⟨I5, J5, rfl, rfl, k⟩
          refine sp_aload_n 88 rfl rfl rfl ?_
          refine hq_getR 91 rfl rfl rfl rfl ?_
          refine sc_V 94 rfl rfl rfl rfl rfl (Nat.le_refl _) (Nat.le_refl _) rfl ?_
          refine mm_s_mono _ _ _ _ _ _ ?_ k
          rintro r_ h_ ⟨I6, J6, rfl, rfl, k⟩
          refine sp_iconst 95 rfl rfl ?_
          exact st_zret rfl rfl (by decide) (Nat.le_refl _) (Nat.le_refl _) k
        · have k := k.1 q
          refine sp_iconst 71 rfl rfl ?_
          exact st_zret rfl rfl (by decide) (Nat.le_refl _) (Nat.le_refl _) k
    · have k := k.2 q
      refine sp_aload_n 37 rfl rfl rfl ?_
      refine sp_iconst 38 rfl rfl ?_
      refine sc_V 41 rfl rfl rfl rfl rfl (Nat.le_refl _) (Nat.le_refl _) rfl ?_
      refine mm_s_mono _ _ _ _ _ _ ?_ k
      rintro r_ h_ ⟨x7, I7, J7, rfl, rfl, k⟩
      exact st_zret rfl rfl k.1 (Nat.le_refl _) (Nat.le_refl _) k.2
  · have k := k.2 q
    refine sp_aload_n 12 rfl rfl rfl ?_
    refine sp_iconst 13 rfl rfl ?_
    refine sc_V 16 rfl rfl rfl rfl rfl (Nat.le_refl _) (Nat.le_refl _) rfl ?_
    refine mm_s_mono _ _ _ _ _ _ ?_ k
    rintro r_ h_ ⟨x8, I8, J8, rfl, rfl, k⟩
    exact st_zret rfl rfl k.1 (Nat.le_refl _) (Nat.le_refl _) k.2
theorem sg_X7_readDrawn {SL : Nat} {xs : Nat → Int32} {d : Nat} {p s q : Nat} {Q : Option Value → mm_H → Prop}  {I : Nat → Nat → Int32} {J : Nat → Nat → Int64} (h_q : isP q) (k : (mm_s SL xs (d + 4) 78 [.ref 3, .int (Int32.ofInt 1), .int (Int32.ofInt 999)] (hp p s q I J) (fun r_ h_ => ∃ x1 I1 J1, r_ = some (.int x1) ∧ h_ = hp p s q I1 J1 ∧ ((x1 = Int32.ofInt 0 → Q (some (.int (Int32.ofInt 0))) (hp p s q I1 J1)) ∧ (¬ (x1 = Int32.ofInt 0) → (mm_s SL xs (d + 4) 54 [.ref q, .int (I1 4 4)] (hp p s q I1 J1) (fun r_ h_ => ∃ x2 I2 J2, r_ = some (.int x2) ∧ h_ = hp p s q I2 J2 ∧ ((x2 = Int32.ofInt 0 → (mm_s SL xs (d + 4) 105 [.ref 4] (hp p s q I2 J2) (fun r_ h_ => ∃ I3 J3, r_ = none ∧ h_ = hp p s q I3 J3 ∧ (mm_s SL xs (d + 4) 75 [.ref 3, .int (Int32.ofInt 141)] (hp p s q I3 J3) (fun r_ h_ => ∃ x4 I4 J4, r_ = some (.int x4) ∧ h_ = hp p s q I4 J4 ∧ ((x4 = Int32.ofInt 0 → Q (some (.int (Int32.ofInt 0))) (hp p s q I4 J4)) ∧ (¬ (x4 = Int32.ofInt 0) → (mm_s SL xs (d + 4) 78 [.ref 3, .int (Int32.ofInt 1), .int (Int32.ofInt 99)] (hp p s q I4 J4) (fun r_ h_ => ∃ x5 I5 J5, r_ = some (.int x5) ∧ h_ = hp p s q I5 J5 ∧ ((x5 = Int32.ofInt 0 → Q (some (.int (Int32.ofInt 0))) (hp p s q I5 J5)) ∧ (¬ (x5 = Int32.ofInt 0) → (mm_s SL xs (d + 4) 56 [.ref q, .int (I1 4 4), .int (I5 4 4)] (hp p s q I5 J5) (fun r_ h_ => ∃ I6 J6, r_ = none ∧ h_ = hp p s q I6 J6 ∧ (mm_s SL xs (d + 4) 105 [.ref 4] (hp p s q I6 J6) (fun r_ h_ => ∃ I7 J7, r_ = none ∧ h_ = hp p s q I7 J7 ∧ Q (some (.int (Int32.ofInt 1))) (hp p s q I7 J7)))))))))))))))) ∧ (¬ (x2 = Int32.ofInt 0) → (mm_s SL xs (d + 4) 74 [.ref 3, .int (Int32.ofInt 3)] (hp p s q I2 J2) (fun r_ h_ => ∃ x8 I8 J8, r_ = some (.int x8) ∧ h_ = hp p s q I8 J8 ∧ ((x8 = 0 ∨ x8 = 1) ∧ Q (some (.int x8)) (hp p s q I8 J8))))))))))))) : mm_s SL xs (d + 5) 83 [.ref 3] (hp p s q I J) Q := by
  refine e_X7_readDrawn rfl ?_
  refine sp_aload_n 1 rfl rfl rfl ?_
  refine sp_iconst 2 rfl rfl ?_
  refine sp_sipush 5 rfl rfl ?_
  refine sp_I (y := Int32.ofInt 999) rfl ?_
  refine sc_V 8 rfl rfl rfl rfl rfl (Nat.le_refl _) (Nat.le_refl _) rfl ?_
  refine mm_s_mono _ _ _ _ _ _ ?_ k
  rintro r_ h_ ⟨x1, I1, J1, rfl, rfl, k⟩
  refine sp_if_ne 11 rfl rfl (fun q => ?_) (fun q => ?_)
  · have k := k.2 q
    refine sp_aload_n 14 rfl rfl rfl ?_
    refine hq_getR 17 rfl rfl rfl rfl ?_
    refine hq_getI 20 rfl rfl rfl ?_
    refine sp_istore_n 21 rfl rfl rfl ?_
    refine sp_aload_n 22 rfl rfl rfl ?_
    refine hq_getR 25 rfl rfl rfl rfl ?_
    refine sp_iload_n 26 rfl rfl rfl ?_
    refine sc_V 29 rfl rfl (kP0 h_q) rfl rfl (Nat.le_refl _) (Nat.le_refl _) rfl ?_
    refine mm_s_mono _ _ _ _ _ _ ?_ k
    rintro r_ h_ ⟨x2, I2, J2, rfl, rfl, k⟩
    refine sp_if_eq 32 rfl rfl (fun q => ?_) (fun q => ?_)
    · have k := k.1 q
      refine sp_aload_n 39 rfl rfl rfl ?_
      refine hq_getR 42 rfl rfl rfl rfl ?_
      refine sc_V 45 rfl rfl rfl rfl rfl (Nat.le_refl _) (Nat.le_refl _) rfl ?_
      refine mm_s_mono _ _ _ _ _ _ ?_ k
      rintro r_ h_ ⟨I3, J3, rfl, rfl, k⟩
      refine sp_aload_n 46 rfl rfl rfl ?_
      refine sp_sipush 49 rfl rfl ?_
      refine sp_I (y := Int32.ofInt 141) rfl ?_
      refine sc_V 52 rfl rfl rfl rfl rfl (Nat.le_refl _) (Nat.le_refl _) rfl ?_
      refine mm_s_mono _ _ _ _ _ _ ?_ k
      rintro r_ h_ ⟨x4, I4, J4, rfl, rfl, k⟩
      refine sp_if_eq 55 rfl rfl (fun q => ?_) (fun q => ?_)
      · have k := k.1 q
        refine sp_iconst 66 rfl rfl ?_
        exact st_zret rfl rfl (by decide) (Nat.le_refl _) (Nat.le_refl _) k
      · have k := k.2 q
        refine sp_aload_n 56 rfl rfl rfl ?_
        refine sp_iconst 57 rfl rfl ?_
        refine sp_bipush 59 rfl rfl ?_
        refine sp_I (y := Int32.ofInt 99) rfl ?_
        refine sc_V 62 rfl rfl rfl rfl rfl (Nat.le_refl _) (Nat.le_refl _) rfl ?_
        refine mm_s_mono _ _ _ _ _ _ ?_ k
        rintro r_ h_ ⟨x5, I5, J5, rfl, rfl, k⟩
        refine sp_if_ne 65 rfl rfl (fun q => ?_) (fun q => ?_)
        · have k := k.2 q
          refine sp_aload_n 68 rfl rfl rfl ?_
          refine hq_getR 71 rfl rfl rfl rfl ?_
          refine sp_iload_n 72 rfl rfl rfl ?_
          refine sp_aload_n 73 rfl rfl rfl ?_
          refine hq_getR 76 rfl rfl rfl rfl ?_
          refine hq_getI 79 rfl rfl rfl ?_
          refine sc_V 82 rfl rfl (kP0 h_q) rfl rfl (Nat.le_refl _) (Nat.le_refl _) rfl ?_
          refine mm_s_mono _ _ _ _ _ _ ?_ k
          rintro r_ h_ ⟨I6, J6, rfl, rfl, k⟩
          refine sp_aload_n 83 rfl rfl rfl ?_
          refine hq_getR 86 rfl rfl rfl rfl ?_
          refine sc_V 89 rfl rfl rfl rfl rfl (Nat.le_refl _) (Nat.le_refl _) rfl ?_
          refine mm_s_mono _ _ _ _ _ _ ?_ k
          rintro r_ h_ ⟨I7, J7, rfl, rfl, k⟩
          refine sp_iconst 90 rfl rfl ?_
          exact st_zret rfl rfl (by decide) (Nat.le_refl _) (Nat.le_refl _) k
        · have k := k.1 q
          refine sp_iconst 66 rfl rfl ?_
          exact st_zret rfl rfl (by decide) (Nat.le_refl _) (Nat.le_refl _) k
    · have k := k.2 q
      refine sp_aload_n 33 rfl rfl rfl ?_
      refine sp_iconst 34 rfl rfl ?_
      refine sc_V 37 rfl rfl rfl rfl rfl (Nat.le_refl _) (Nat.le_refl _) rfl ?_
      refine mm_s_mono _ _ _ _ _ _ ?_ k
      rintro r_ h_ ⟨x8, I8, J8, rfl, rfl, k⟩
      exact st_zret rfl rfl k.1 (Nat.le_refl _) (Nat.le_refl _) k.2
  · have k := k.1 q
    refine sp_iconst 12 rfl rfl ?_
    exact st_zret rfl rfl (by decide) (Nat.le_refl _) (Nat.le_refl _) k
def w_X8_bestQuestion_10 (SL : Nat) (xs : Nat → Int32) (d : Nat) (p s q : Nat) (Q : Option Value → mm_H → Prop) (v1 : Int32) (v2 : Int32) (I : Nat → Nat → Int32) (J : Nat → Nat → Int64) : Prop := mm_w SL xs (mm_s SL xs (d + 4)) mm_am kX8_bestQuestion 0 0 (some .int) Q 10 [some (.ref 33), some (.int v1), some (.int v2), none] [] (hp p s q I J) 0 0
def w_X8_bestQuestion_41 (SL : Nat) (xs : Nat → Int32) (d : Nat) (p s q : Nat) (Q : Option Value → mm_H → Prop) (v1 : Int32) (v2 : Int32) (v3 : Int32) (I : Nat → Nat → Int32) (J : Nat → Nat → Int64) : Prop := mm_w SL xs (mm_s SL xs (d + 4)) mm_am kX8_bestQuestion 0 0 (some .int) Q 41 [some (.ref 33), some (.int v1), some (.int v2), some (.int v3)] [] (hp p s q I J) 0 0
theorem sg_X8_bestQuestion {SL : Nat} {xs : Nat → Int32} {d : Nat} {p s q : Nat} {Q : Option Value → mm_H → Prop} {a0 : Int32} {I : Nat → Nat → Int32} {J : Nat → Nat → Int64}  (k : (mm_s SL xs (d + 4) 281 [.ref 38, .int (Int32.ofInt 0)] (hp p s q I J) (fun r_ h_ => ∃ I1 J1, r_ = none ∧ h_ = hp p s q I1 J1 ∧ w_X8_bestQuestion_10 SL xs d p s q Q a0 (Int32.ofInt 1) I1 J1))) : mm_s SL xs (d + 5) 99 [.ref 33, .int a0] (hp p s q I J) Q := by
  refine e_X8_bestQuestion rfl ?_
  refine sp_aload_n 1 rfl rfl rfl ?_
  refine hq_getR 4 rfl rfl rfl rfl ?_
  refine sp_iconst 5 rfl rfl ?_
  refine sc_S 8 rfl rfl rfl rfl (Nat.le_refl _) (Nat.le_refl _) rfl ?_
  refine mm_s_mono _ _ _ _ _ _ ?_ k
  rintro r_ h_ ⟨I1, J1, rfl, rfl, k⟩
  refine sp_iconst 9 rfl rfl ?_
  refine sp_istore_n 10 rfl rfl rfl ?_
  exact k
theorem sg_X8_bestQuestion_10 {SL : Nat} {xs : Nat → Int32} {d : Nat} {p s q : Nat} {Q : Option Value → mm_H → Prop} {v1 : Int32} {v2 : Int32} {I : Nat → Nat → Int32} {J : Nat → Nat → Int64}  (k : (((Int32.ofInt 200) < v2 → w_X8_bestQuestion_41 SL xs d p s q Q v1 (Int32.ofInt 1) (Int32.ofInt 2) I J) ∧ (¬ ((Int32.ofInt 200) < v2) → (mm_s SL xs (d + 4) 96 [.ref 33, .int v2] (hp p s q I J) (fun r_ h_ => ∃ x1 I1 J1, r_ = some (.int x1) ∧ h_ = hp p s q I1 J1 ∧ ((x1 = Int32.ofInt 0 → w_X8_bestQuestion_10 SL xs d p s q Q v1 (v2 + Int32.ofInt 1) I1 J1) ∧ (¬ (x1 = Int32.ofInt 0) → (mm_s SL xs (d + 4) 100 [.ref 33, .int v1, .int v2] (hp p s q I1 J1) (fun r_ h_ => ∃ I2 J2, r_ = none ∧ h_ = hp p s q I2 J2 ∧ w_X8_bestQuestion_10 SL xs d p s q Q v1 (v2 + Int32.ofInt 1) I2 J2))))))))) : w_X8_bestQuestion_10 SL xs d p s q Q v1 v2 I J := by
  unfold w_X8_bestQuestion_10
  refine sp_iload_n 11 rfl rfl rfl ?_
  refine sp_sipush 14 rfl rfl ?_
  refine sp_I (y := Int32.ofInt 200) rfl ?_
  refine sp_ic_gt 17 rfl rfl (fun q => ?_) (fun q => ?_)
  · have k := k.1 q
    refine sp_iconst 38 rfl rfl ?_
    refine sp_istore_n 39 rfl rfl rfl ?_
    refine sp_iconst 40 rfl rfl ?_
    refine sp_istore_n 41 rfl rfl rfl ?_
    exact k
  · have k := k.2 q
    refine sp_aload_n 18 rfl rfl rfl ?_
    refine sp_iload_n 19 rfl rfl rfl ?_
    refine sc_V 22 rfl rfl rfl rfl rfl (Nat.le_refl _) (Nat.le_refl _) rfl ?_
    refine mm_s_mono _ _ _ _ _ _ ?_ k
    rintro r_ h_ ⟨x1, I1, J1, rfl, rfl, k⟩
    refine sp_if_eq 25 rfl rfl (fun q => ?_) (fun q => ?_)
    · have k := k.1 q
      refine sp_iinc 34 rfl rfl rfl rfl ?_
      refine sp_goto rfl ?_
      exact k
    · have k := k.2 q
      refine sp_aload_n 26 rfl rfl rfl ?_
      refine sp_iload_n 27 rfl rfl rfl ?_
      refine sp_iload_n 28 rfl rfl rfl ?_
      refine sc_V 31 rfl rfl rfl rfl rfl (Nat.le_refl _) (Nat.le_refl _) rfl ?_
      refine mm_s_mono _ _ _ _ _ _ ?_ k
      rintro r_ h_ ⟨I2, J2, rfl, rfl, k⟩
      refine sp_iinc 34 rfl rfl rfl rfl ?_
      refine sp_goto rfl ?_
      exact k
theorem sg_X8_bestQuestion_41 {SL : Nat} {xs : Nat → Int32} {d : Nat} {p s q : Nat} {Q : Option Value → mm_H → Prop} {v1 : Int32} {v2 : Int32} {v3 : Int32} {I : Nat → Nat → Int32} {J : Nat → Nat → Int64}  (k : ((v1 < v3 → Q (some (.int v2)) (hp p s q I J)) ∧ (¬ (v1 < v3) → (mm_s SL xs (d + 4) 101 [.ref 33, .int v1, .int v3] (hp p s q I J) (fun r_ h_ => ∃ x1 I1 J1, r_ = some (.int x1) ∧ h_ = hp p s q I1 J1 ∧ (mm_s SL xs (d + 4) 101 [.ref 33, .int v1, .int v2] (hp p s q I1 J1) (fun r_ h_ => ∃ x2 I2 J2, r_ = some (.int x2) ∧ h_ = hp p s q I2 J2 ∧ ((x2 ≤ x1 → w_X8_bestQuestion_41 SL xs d p s q Q v1 v2 (v3 + Int32.ofInt 1) I2 J2) ∧ (¬ (x2 ≤ x1) → w_X8_bestQuestion_41 SL xs d p s q Q v1 v3 (v3 + Int32.ofInt 1) I2 J2))))))))) : w_X8_bestQuestion_41 SL xs d p s q Q v1 v2 v3 I J := by
  unfold w_X8_bestQuestion_41
  refine sp_iload_n 42 rfl rfl rfl ?_
  refine sp_iload_n 43 rfl rfl rfl ?_
  refine sp_ic_gt 46 rfl rfl (fun q => ?_) (fun q => ?_)
  · have k := k.1 q
    refine sp_iload_n 70 rfl rfl rfl ?_
    exact st_iret rfl rfl (Nat.le_refl _) (Nat.le_refl _) k
  · have k := k.2 q
    refine sp_aload_n 47 rfl rfl rfl ?_
    refine sp_iload_n 48 rfl rfl rfl ?_
    refine sp_iload_n 49 rfl rfl rfl ?_
    refine sc_V 52 rfl rfl rfl rfl rfl (Nat.le_refl _) (Nat.le_refl _) rfl ?_
    refine mm_s_mono _ _ _ _ _ _ ?_ k
    rintro r_ h_ ⟨x1, I1, J1, rfl, rfl, k⟩
    refine sp_aload_n 53 rfl rfl rfl ?_
    refine sp_iload_n 54 rfl rfl rfl ?_
    refine sp_iload_n 55 rfl rfl rfl ?_
    refine sc_V 58 rfl rfl rfl rfl rfl (Nat.le_refl _) (Nat.le_refl _) rfl ?_
    refine mm_s_mono _ _ _ _ _ _ ?_ k
    rintro r_ h_ ⟨x2, I2, J2, rfl, rfl, k⟩
    refine sp_ic_ge 61 rfl rfl (fun q => ?_) (fun q => ?_)
    · have k := k.1 q
      refine sp_iinc 66 rfl rfl rfl rfl ?_
      refine sp_goto rfl ?_
      exact k
    · have k := k.2 q
      refine sp_iload_n 62 rfl rfl rfl ?_
      refine sp_istore_n 63 rfl rfl rfl ?_
      refine sp_iinc 66 rfl rfl rfl rfl ?_
      refine sp_goto rfl ?_
      exact k
def w_X0_trialKeeps_2 (SL : Nat) (xs : Nat → Int32) (d : Nat) (p s q : Nat) (Q : Option Value → mm_H → Prop) (a0 : Nat) (v2 : Int32) (v3 : Int32) (I : Nat → Nat → Int32) (J : Nat → Nat → Int64) : Prop := mm_w SL xs (mm_s SL xs (d + 5)) mm_am kX0_trialKeeps 0 0 (some .boolean) Q 2 [some (.ref 20), some (.ref a0), some (.int v2), some (.int v3)] [] (hp p s q I J) 0 0
theorem sg_X0_trialKeeps {SL : Nat} {xs : Nat → Int32} {d : Nat} {p s q : Nat} {Q : Option Value → mm_H → Prop} {a0 : Nat} {a1 : Int32} {I : Nat → Nat → Int32} {J : Nat → Nat → Int64}  (k : w_X0_trialKeeps_2 SL xs d p s q Q a0 a1 (Int32.ofInt 0) I J) : mm_s SL xs (d + 6) 5 [.ref 20, .ref a0, .int a1] (hp p s q I J) Q := by
  refine e_X0_trialKeeps rfl ?_
  refine sp_iconst 1 rfl rfl ?_
  refine sp_istore_n 2 rfl rfl rfl ?_
  exact k
theorem sg_X0_trialKeeps_2 {SL : Nat} {xs : Nat → Int32} {d : Nat} {p s q : Nat} {Q : Option Value → mm_H → Prop} {a0 : Nat} {v2 : Int32} {v3 : Int32} {I : Nat → Nat → Int32} {J : Nat → Nat → Int64} (h_a0 : isP a0) (k : (((Int32.ofInt 1000) ≤ v3 → Q (some (.int (sy_X1_standsAt 25 v2 I J))) (hp p s q I J)) ∧ (¬ ((Int32.ofInt 1000) ≤ v3) → (((sy_X1_standing 25 I J) ≤ (I a0 2) → Q (some (.int (sy_X1_standsAt 25 v2 I J))) (hp p s q I J)) ∧ (¬ ((sy_X1_standing 25 I J) ≤ (I a0 2)) → (((sy_X1_standsAt 25 v2 I J) = Int32.ofInt 0 → Q (some (.int (Int32.ofInt 0))) (hp p s q I J)) ∧ (¬ ((sy_X1_standsAt 25 v2 I J) = Int32.ofInt 0) → (mm_s SL xs (d + 5) 20 [.ref 25, .ref a0] (hp p s q I J) (fun r_ h_ => ∃ x1 I1 J1, r_ = some (.int x1) ∧ h_ = hp p s q I1 J1 ∧ (mm_s SL xs (d + 5) 21 [.ref 25, .ref a0, .int x1] (hp p s q I1 J1) (fun r_ h_ => ∃ I2 J2, r_ = none ∧ h_ = hp p s q I2 J2 ∧ w_X0_trialKeeps_2 SL xs d p s q Q a0 v2 (v3 + Int32.ofInt 1) I2 J2))))))))))) : w_X0_trialKeeps_2 SL xs d p s q Q a0 v2 v3 I J := by
  unfold w_X0_trialKeeps_2
  refine sp_iload_n 3 rfl rfl rfl ?_
  refine sp_sipush 6 rfl rfl ?_
  refine sp_I (y := Int32.ofInt 1000) rfl ?_
  refine sp_ic_ge 9 rfl rfl (fun q => ?_) (fun q => ?_)
  · have k := k.1 q
    refine sp_aload_n 59 rfl rfl rfl ?_
    refine hq_getR 62 rfl rfl rfl rfl ?_
    refine sp_iload_n 63 rfl rfl rfl ?_
    refine sc_V 66 rfl rfl rfl rfl rfl (Nat.le_refl _) (Nat.le_refl _) rfl ?_
    refine cy_X1_standsAt isC_25 ?_
    exact st_zret rfl rfl (bz_X1_standsAt) (Nat.le_refl _) (Nat.le_refl _) k
  · have k := k.2 q
    refine sp_aload_n 10 rfl rfl rfl ?_
    refine hq_getR 13 rfl rfl rfl rfl ?_
    refine sc_V 16 rfl rfl rfl rfl rfl (Nat.le_refl _) (Nat.le_refl _) rfl ?_
    refine cy_X1_standing isC_25 ?_
    refine sp_aload_n 17 rfl rfl rfl ?_
    refine hq_getI 20 rfl (kP0 h_a0) rfl ?_
    refine sp_ic_le 23 rfl rfl (fun q => ?_) (fun q => ?_)
    · have k := k.1 q
      refine sp_aload_n 59 rfl rfl rfl ?_
      refine hq_getR 62 rfl rfl rfl rfl ?_
      refine sp_iload_n 63 rfl rfl rfl ?_
      refine sc_V 66 rfl rfl rfl rfl rfl (Nat.le_refl _) (Nat.le_refl _) rfl ?_
      refine cy_X1_standsAt isC_25 ?_
      exact st_zret rfl rfl (bz_X1_standsAt) (Nat.le_refl _) (Nat.le_refl _) k
    · have k := k.2 q
      refine sp_aload_n 24 rfl rfl rfl ?_
      refine hq_getR 27 rfl rfl rfl rfl ?_
      refine sp_iload_n 28 rfl rfl rfl ?_
      refine sc_V 31 rfl rfl rfl rfl rfl (Nat.le_refl _) (Nat.le_refl _) rfl ?_
      refine cy_X1_standsAt isC_25 ?_
      refine sp_if_ne 34 rfl rfl (fun q => ?_) (fun q => ?_)
      · have k := k.2 q
        refine sp_aload_n 37 rfl rfl rfl ?_
        refine hq_getR 40 rfl rfl rfl rfl ?_
        refine sp_aload_n 41 rfl rfl rfl ?_
        refine sp_aload_n 42 rfl rfl rfl ?_
        refine hq_getR 45 rfl rfl rfl rfl ?_
        refine sp_aload_n 46 rfl rfl rfl ?_
        refine sc_V 49 rfl rfl rfl rfl rfl (Nat.le_refl _) (Nat.le_refl _) rfl ?_
        refine mm_s_mono _ _ _ _ _ _ ?_ k
        rintro r_ h_ ⟨x1, I1, J1, rfl, rfl, k⟩
        refine sc_V 52 rfl rfl rfl rfl rfl (Nat.le_refl _) (Nat.le_refl _) rfl ?_
        refine mm_s_mono _ _ _ _ _ _ ?_ k
        rintro r_ h_ ⟨I2, J2, rfl, rfl, k⟩
        refine sp_iinc 55 rfl rfl rfl rfl ?_
        refine sp_goto rfl ?_
        exact k
      · have k := k.1 q
        refine sp_iconst 35 rfl rfl ?_
        exact st_zret rfl rfl (by decide) (Nat.le_refl _) (Nat.le_refl _) k
def w_X0_meeting_20 (SL : Nat) (xs : Nat → Int32) (d : Nat) (p s q : Nat) (Q : Option Value → mm_H → Prop) (a0 : Nat) (a1 : Nat) (v3 : Int32) (I : Nat → Nat → Int32) (J : Nat → Nat → Int64) : Prop := mm_w SL xs (mm_s SL xs (d + 5)) mm_am kX0_meeting 0 0 (some .int) Q 20 [some (.ref 20), some (.ref a0), some (.ref a1), some (.int v3)] [] (hp p s q I J) 0 0
theorem sg_X0_meeting {SL : Nat} {xs : Nat → Int32} {d : Nat} {p s q : Nat} {Q : Option Value → mm_H → Prop} {a0 : Nat} {a1 : Nat} {I : Nat → Nat → Int32} {J : Nat → Nat → Int64} (h_a0 : isP a0) (k : (((I a0 5) = (Int32.ofInt (-1)) → Q (some (.int (Int32.ofInt (-1)))) (hp p s q I J)) ∧ (¬ ((I a0 5) = (Int32.ofInt (-1))) → (mm_s SL xs (d + 5) 14 [.ref 21, .ref a1] (hp p s q I J) (fun r_ h_ => ∃ I1 J1, r_ = none ∧ h_ = hp p s q I1 J1 ∧ w_X0_meeting_20 SL xs d p s q Q a0 a1 (Int32.ofInt 0) I1 J1))))) : mm_s SL xs (d + 6) 6 [.ref 20, .ref a0, .ref a1] (hp p s q I J) Q := by
  refine e_X0_meeting rfl ?_
  refine sp_aload_n 1 rfl rfl rfl ?_
  refine hq_getI 4 rfl (kP0 h_a0) rfl ?_
  refine sp_iconst 5 rfl rfl ?_
  refine sp_ic_ne 8 rfl rfl (fun q => ?_) (fun q => ?_)
  · have k := k.2 q
    refine sp_aload_n 11 rfl rfl rfl ?_
    refine hq_getR 14 rfl rfl rfl rfl ?_
    refine sp_aload_n 15 rfl rfl rfl ?_
    refine sc_V 18 rfl rfl rfl rfl rfl (Nat.le_refl _) (Nat.le_refl _) rfl ?_
    refine mm_s_mono _ _ _ _ _ _ ?_ k
    rintro r_ h_ ⟨I1, J1, rfl, rfl, k⟩
    refine sp_iconst 19 rfl rfl ?_
    refine sp_istore_n 20 rfl rfl rfl ?_
    exact k
  · have k := k.1 q
    refine sp_iconst 9 rfl rfl ?_
    exact st_iret rfl rfl (Nat.le_refl _) (Nat.le_refl _) k
theorem sg_X0_meeting_20 {SL : Nat} {xs : Nat → Int32} {d : Nat} {p s q : Nat} {Q : Option Value → mm_H → Prop} {a0 : Nat} {a1 : Nat} {v3 : Int32} {I : Nat → Nat → Int32} {J : Nat → Nat → Int64} (h_a0 : isP a0) (k : (((Int32.ofInt 1000) ≤ v3 → Q (some (.int (Int32.ofInt (-1)))) (hp p s q I J)) ∧ (¬ ((Int32.ofInt 1000) ≤ v3) → (((sy_X1_standing 21 I J) ≤ (I a0 2) → Q (some (.int (Int32.ofInt (-1)))) (hp p s q I J)) ∧ (¬ ((sy_X1_standing 21 I J) ≤ (I a0 2)) → (mm_s SL xs (d + 5) 20 [.ref 21, .ref a0] (hp p s q I J) (fun r_ h_ => ∃ x1 I1 J1, r_ = some (.int x1) ∧ h_ = hp p s q I1 J1 ∧ (mm_s SL xs (d + 5) 21 [.ref 21, .ref a0, .int x1] (hp p s q I1 J1) (fun r_ h_ => ∃ I2 J2, r_ = none ∧ h_ = hp p s q I2 J2 ∧ (((sy_X0_areNear (I2 a0 0) I2 J2) = Int32.ofInt 0 → w_X0_meeting_20 SL xs d p s q Q a0 a1 (v3 + Int32.ofInt 1) I2 J2) ∧ (¬ ((sy_X0_areNear (I2 a0 0) I2 J2) = Int32.ofInt 0) → Q (some (.int (I2 21 2))) (hp p s q I2 J2)))))))))))) : w_X0_meeting_20 SL xs d p s q Q a0 a1 v3 I J := by
  unfold w_X0_meeting_20
  refine sp_iload_n 21 rfl rfl rfl ?_
  refine sp_sipush 24 rfl rfl ?_
  refine sp_I (y := Int32.ofInt 1000) rfl ?_
  refine sp_ic_ge 27 rfl rfl (fun q => ?_) (fun q => ?_)
  · have k := k.1 q
    refine sp_iconst 83 rfl rfl ?_
    exact st_iret rfl rfl (Nat.le_refl _) (Nat.le_refl _) k
  · have k := k.2 q
    refine sp_aload_n 28 rfl rfl rfl ?_
    refine hq_getR 31 rfl rfl rfl rfl ?_
    refine sc_V 34 rfl rfl rfl rfl rfl (Nat.le_refl _) (Nat.le_refl _) rfl ?_
    refine cy_X1_standing isC_21 ?_
    refine sp_aload_n 35 rfl rfl rfl ?_
    refine hq_getI 38 rfl (kP0 h_a0) rfl ?_
    refine sp_ic_le 41 rfl rfl (fun q => ?_) (fun q => ?_)
    · have k := k.1 q
      refine sp_iconst 83 rfl rfl ?_
      exact st_iret rfl rfl (Nat.le_refl _) (Nat.le_refl _) k
    · have k := k.2 q
      refine sp_aload_n 42 rfl rfl rfl ?_
      refine hq_getR 45 rfl rfl rfl rfl ?_
      refine sp_aload_n 46 rfl rfl rfl ?_
      refine sp_aload_n 47 rfl rfl rfl ?_
      refine hq_getR 50 rfl rfl rfl rfl ?_
      refine sp_aload_n 51 rfl rfl rfl ?_
      refine sc_V 54 rfl rfl rfl rfl rfl (Nat.le_refl _) (Nat.le_refl _) rfl ?_
      refine mm_s_mono _ _ _ _ _ _ ?_ k
      rintro r_ h_ ⟨x1, I1, J1, rfl, rfl, k⟩
      refine sc_V 57 rfl rfl rfl rfl rfl (Nat.le_refl _) (Nat.le_refl _) rfl ?_
      refine mm_s_mono _ _ _ _ _ _ ?_ k
      rintro r_ h_ ⟨I2, J2, rfl, rfl, k⟩
      refine sp_aload_n 58 rfl rfl rfl ?_
      refine sp_aload_n 59 rfl rfl rfl ?_
      refine hq_getI 62 rfl (kP0 h_a0) rfl ?_
      refine sc_V 65 rfl rfl rfl rfl rfl (Nat.le_refl _) (Nat.le_refl _) rfl ?_
      refine cy_X0_areNear ?_
      refine sp_if_eq 68 rfl rfl (fun q => ?_) (fun q => ?_)
      · have k := k.1 q
        refine sp_iinc 79 rfl rfl rfl rfl ?_
        refine sp_goto rfl ?_
        exact k
      · have k := k.2 q
        refine sp_aload_n 69 rfl rfl rfl ?_
        refine hq_getR 72 rfl rfl rfl rfl ?_
        refine hq_getI 75 rfl rfl rfl ?_
        exact st_iret rfl rfl (Nat.le_refl _) (Nat.le_refl _) k
def w_X0_keepsAll_15 (SL : Nat) (xs : Nat → Int32) (d : Nat) (p s q : Nat) (Q : Option Value → mm_H → Prop) (a0 : Nat) (v2 : Int64) (v4 : Int32) (v5 : Int32) (I : Nat → Nat → Int32) (J : Nat → Nat → Int64) : Prop := mm_w SL xs (mm_s SL xs (d + 5)) mm_am kX0_keepsAll 0 0 (some .boolean) Q 15 [some (.ref 20), some (.ref a0), some (.long v2), none, some (.int v4), some (.int v5)] [] (hp p s q I J) 0 0
theorem sg_X0_keepsAll {SL : Nat} {xs : Nat → Int32} {d : Nat} {p s q : Nat} {Q : Option Value → mm_H → Prop} {a0 : Nat} {a1 : Int64} {a2 : Int32} {I : Nat → Nat → Int32} {J : Nat → Nat → Int64} (h_a0 : isP a0) (k : (mm_s SL xs (d + 5) 13 [.ref 21, .ref a0, .int (I a0 1)] (hp p s q I J) (fun r_ h_ => ∃ I1 J1, r_ = none ∧ h_ = hp p s q I1 J1 ∧ w_X0_keepsAll_15 SL xs d p s q Q a0 a1 a2 (Int32.ofInt 0) I1 J1))) : mm_s SL xs (d + 6) 10 [.ref 20, .ref a0, .long a1, .int a2] (hp p s q I J) Q := by
  refine e_X0_keepsAll rfl ?_
  refine sp_aload_n 1 rfl rfl rfl ?_
  refine hq_getR 4 rfl rfl rfl rfl ?_
  refine sp_aload_n 5 rfl rfl rfl ?_
  refine sp_aload_n 6 rfl rfl rfl ?_
  refine hq_getI 9 rfl (kP0 h_a0) rfl ?_
  refine sc_V 12 rfl rfl rfl rfl rfl (Nat.le_refl _) (Nat.le_refl _) rfl ?_
  refine mm_s_mono _ _ _ _ _ _ ?_ k
  rintro r_ h_ ⟨I1, J1, rfl, rfl, k⟩
  refine sp_iconst 13 rfl rfl ?_
  refine sp_istore 15 rfl rfl rfl ?_
  exact k
theorem sg_X0_keepsAll_15 {SL : Nat} {xs : Nat → Int32} {d : Nat} {p s q : Nat} {Q : Option Value → mm_H → Prop} {a0 : Nat} {v2 : Int64} {v4 : Int32} {v5 : Int32} {I : Nat → Nat → Int32} {J : Nat → Nat → Int64} (h_a0 : isP a0) (k : (((Int32.ofInt 1000) ≤ v5 → Q (some (.int (Int32.ofInt 1))) (hp p s q I J)) ∧ (¬ ((Int32.ofInt 1000) ≤ v5) → (((sy_X1_standing 21 I J) ≤ (I a0 2) → Q (some (.int (Int32.ofInt 1))) (hp p s q I J)) ∧ (¬ ((sy_X1_standing 21 I J) ≤ (I a0 2)) → (mm_s SL xs (d + 5) 21 [.ref 21, .ref a0, .int v4] (hp p s q I J) (fun r_ h_ => ∃ I1 J1, r_ = none ∧ h_ = hp p s q I1 J1 ∧ (((v2 &&& ((J1 21 1) ^^^ (Int64.ofInt (-1)))) = (Int64.ofInt 0) → w_X0_keepsAll_15 SL xs d p s q Q a0 v2 v4 (v5 + Int32.ofInt 1) I1 J1) ∧ (¬ ((v2 &&& ((J1 21 1) ^^^ (Int64.ofInt (-1)))) = (Int64.ofInt 0)) → Q (some (.int (Int32.ofInt 0))) (hp p s q I1 J1)))))))))) : w_X0_keepsAll_15 SL xs d p s q Q a0 v2 v4 v5 I J := by
  unfold w_X0_keepsAll_15
  refine sp_iload 17 rfl rfl rfl ?_
  refine sp_sipush 20 rfl rfl ?_
  refine sp_I (y := Int32.ofInt 1000) rfl ?_
  refine sp_ic_ge 23 rfl rfl (fun q => ?_) (fun q => ?_)
  · have k := k.1 q
    refine sp_iconst 74 rfl rfl ?_
    exact st_zret rfl rfl (by decide) (Nat.le_refl _) (Nat.le_refl _) k
  · have k := k.2 q
    refine sp_aload_n 24 rfl rfl rfl ?_
    refine hq_getR 27 rfl rfl rfl rfl ?_
    refine sc_V 30 rfl rfl rfl rfl rfl (Nat.le_refl _) (Nat.le_refl _) rfl ?_
    refine cy_X1_standing isC_21 ?_
    refine sp_aload_n 31 rfl rfl rfl ?_
    refine hq_getI 34 rfl (kP0 h_a0) rfl ?_
    refine sp_ic_le 37 rfl rfl (fun q => ?_) (fun q => ?_)
    · have k := k.1 q
      refine sp_iconst 74 rfl rfl ?_
      exact st_zret rfl rfl (by decide) (Nat.le_refl _) (Nat.le_refl _) k
    · have k := k.2 q
      refine sp_aload_n 38 rfl rfl rfl ?_
      refine hq_getR 41 rfl rfl rfl rfl ?_
      refine sp_aload_n 42 rfl rfl rfl ?_
      refine sp_iload 44 rfl rfl rfl ?_
      refine sc_V 47 rfl rfl rfl rfl rfl (Nat.le_refl _) (Nat.le_refl _) rfl ?_
      refine mm_s_mono _ _ _ _ _ _ ?_ k
      rintro r_ h_ ⟨I1, J1, rfl, rfl, k⟩
      refine sp_lload_n 48 rfl rfl rfl ?_
      refine sp_aload_n 49 rfl rfl rfl ?_
      refine hq_getR 52 rfl rfl rfl rfl ?_
      refine hq_getJ 55 rfl rfl rfl ?_
      refine sp_ldc2 58 rfl rfl ?_
      refine sp_lxor 59 rfl rfl ?_
      refine sp_land 60 rfl rfl ?_
      refine sp_lconst 61 rfl rfl ?_
      refine sp_J (y := Int64.ofInt 0) rfl ?_
      refine sp_lcmp 62 rfl rfl ?_
      refine sp_if_eq 65 rfl rfl (fun q => ?_) (fun q => ?_)
      · have k := k.1 ((lg_cmp_eq _ _).mp q)
        refine sp_iinc 70 rfl rfl rfl rfl ?_
        refine sp_goto rfl ?_
        exact k
      · have k := k.2 (fun z => q ((lg_cmp_eq _ _).mpr z))
        refine sp_iconst 66 rfl rfl ?_
        exact st_zret rfl rfl (by decide) (Nat.le_refl _) (Nat.le_refl _) k
def w_X1_goOn_3 (SL : Nat) (xs : Nat → Int32) (d : Nat) (p s q : Nat) (Q : Option Value → mm_H → Prop) (o : Nat) (a0 : Nat) (v2 : Int32) (v3 : Int32) (v4 : Int32) (I : Nat → Nat → Int32) (J : Nat → Nat → Int64) : Prop := mm_w SL xs (mm_s SL xs (d + 5)) mm_am kX1_goOn 0 0 (some .int) Q 3 [some (.ref o), some (.ref a0), some (.int v2), some (.int v3), some (.int v4)] [] (hp p s q I J) 0 0
theorem sg_X1_goOn {SL : Nat} {xs : Nat → Int32} {d : Nat} {p s q : Nat} {Q : Option Value → mm_H → Prop} {o : Nat} {a0 : Nat} {a1 : Int32} {a2 : Int32} {I : Nat → Nat → Int32} {J : Nat → Nat → Int64}  (k : w_X1_goOn_3 SL xs d p s q Q o a0 a1 a2 (Int32.ofInt 0) I J) : mm_s SL xs (d + 6) 19 [.ref o, .ref a0, .int a1, .int a2] (hp p s q I J) Q := by
  refine e_X1_goOn rfl ?_
  refine sp_iconst 1 rfl rfl ?_
  refine sp_istore 3 rfl rfl rfl ?_
  exact k
theorem sg_X1_goOn_3 {SL : Nat} {xs : Nat → Int32} {d : Nat} {p s q : Nat} {Q : Option Value → mm_H → Prop} {o : Nat} {a0 : Nat} {v2 : Int32} {v3 : Int32} {v4 : Int32} {I : Nat → Nat → Int32} {J : Nat → Nat → Int64} (h_o : isC o) (k : ((v3 ≤ v4 → Q (some (.int v4)) (hp p s q I J)) ∧ (¬ (v3 ≤ v4) → (((sy_X1_standing o I J) ≤ v2 → Q (some (.int v4)) (hp p s q I J)) ∧ (¬ ((sy_X1_standing o I J) ≤ v2) → (mm_s SL xs (d + 5) 20 [.ref o, .ref a0] (hp p s q I J) (fun r_ h_ => ∃ x1 I1 J1, r_ = some (.int x1) ∧ h_ = hp p s q I1 J1 ∧ (mm_s SL xs (d + 5) 21 [.ref o, .ref a0, .int x1] (hp p s q I1 J1) (fun r_ h_ => ∃ I2 J2, r_ = none ∧ h_ = hp p s q I2 J2 ∧ w_X1_goOn_3 SL xs d p s q Q o a0 v2 v3 (v4 + Int32.ofInt 1) I2 J2))))))))) : w_X1_goOn_3 SL xs d p s q Q o a0 v2 v3 v4 I J := by
  unfold w_X1_goOn_3
  refine sp_iload 5 rfl rfl rfl ?_
  refine sp_iload_n 6 rfl rfl rfl ?_
  refine sp_ic_ge 9 rfl rfl (fun q => ?_) (fun q => ?_)
  · have k := k.1 q
    refine sp_iload 35 rfl rfl rfl ?_
    exact st_iret rfl rfl (Nat.le_refl _) (Nat.le_refl _) k
  · have k := k.2 q
    refine sp_aload_n 10 rfl rfl rfl ?_
    refine sc_V 13 rfl rfl (kC0 h_o) rfl rfl (Nat.le_refl _) (Nat.le_refl _) rfl ?_
    refine cy_X1_standing h_o ?_
    refine sp_iload_n 14 rfl rfl rfl ?_
    refine sp_ic_le 17 rfl rfl (fun q => ?_) (fun q => ?_)
    · have k := k.1 q
      refine sp_iload 35 rfl rfl rfl ?_
      exact st_iret rfl rfl (Nat.le_refl _) (Nat.le_refl _) k
    · have k := k.2 q
      refine sp_aload_n 18 rfl rfl rfl ?_
      refine sp_aload_n 19 rfl rfl rfl ?_
      refine sp_aload_n 20 rfl rfl rfl ?_
      refine sp_aload_n 21 rfl rfl rfl ?_
      refine sc_V 24 rfl rfl (kC0 h_o) rfl rfl (Nat.le_refl _) (Nat.le_refl _) rfl ?_
      refine mm_s_mono _ _ _ _ _ _ ?_ k
      rintro r_ h_ ⟨x1, I1, J1, rfl, rfl, k⟩
      refine sc_V 27 rfl rfl (kC0 h_o) rfl rfl (Nat.le_refl _) (Nat.le_refl _) rfl ?_
      refine mm_s_mono _ _ _ _ _ _ ?_ k
      rintro r_ h_ ⟨I2, J2, rfl, rfl, k⟩
      refine sp_iinc 30 rfl rfl rfl rfl ?_
      refine sp_goto rfl ?_
      exact k
def w_X3_tryRules_31 (SL : Nat) (xs : Nat → Int32) (d : Nat) (p s q : Nat) (Q : Option Value → mm_H → Prop) (v1 : Int32) (v2 : Int32) (v3 : Int32) (I : Nat → Nat → Int32) (J : Nat → Nat → Int64) : Prop := mm_w SL xs (mm_s SL xs (d + 5)) mm_am kX3_tryRules 0 0 none Q 31 [some (.ref 29), some (.int v1), some (.int v2), some (.int v3), none, none] [] (hp p s q I J) 0 0
def w_X3_tryRules_40 (SL : Nat) (xs : Nat → Int32) (d : Nat) (p s q : Nat) (Q : Option Value → mm_H → Prop) (v1 : Int32) (v2 : Int32) (v3 : Int32) (v4 : Int32) (I : Nat → Nat → Int32) (J : Nat → Nat → Int64) : Prop := mm_w SL xs (mm_s SL xs (d + 5)) mm_am kX3_tryRules 0 0 none Q 40 [some (.ref 29), some (.int v1), some (.int v2), some (.int v3), some (.int v4), none] [] (hp p s q I J) 0 0
def w_X3_tryRules_50 (SL : Nat) (xs : Nat → Int32) (d : Nat) (p s q : Nat) (Q : Option Value → mm_H → Prop) (v1 : Int32) (v2 : Int32) (v3 : Int32) (v4 : Int32) (v5 : Int32) (I : Nat → Nat → Int32) (J : Nat → Nat → Int64) : Prop := mm_w SL xs (mm_s SL xs (d + 5)) mm_am kX3_tryRules 0 0 none Q 50 [some (.ref 29), some (.int v1), some (.int v2), some (.int v3), some (.int v4), some (.int v5)] [] (hp p s q I J) 0 0
theorem sg_X3_tryRules {SL : Nat} {xs : Nat → Int32} {d : Nat} {p s q : Nat} {Q : Option Value → mm_H → Prop} {a0 : Int32} {I : Nat → Nat → Int32} {J : Nat → Nat → Int64}  (k : (((I 29 1) = Int32.ofInt 0 → Q none (hp p s q (mm_u (mm_u I 29 2 (Int32.ofInt 0)) 29 3 (Int32.ofInt (-1))) J)) ∧ (¬ ((I 29 1) = Int32.ofInt 0) → (((I 29 1) ≤ a0 → w_X3_tryRules_31 SL xs d p s q Q a0 (Int32.ofInt 2147483647) (Int32.ofInt 1) (mm_u (mm_u I 29 2 (Int32.ofInt 0)) 29 3 (Int32.ofInt (-1))) J) ∧ (¬ ((I 29 1) ≤ a0) → Q none (hp p s q (mm_u (mm_u I 29 2 (Int32.ofInt 0)) 29 3 (Int32.ofInt (-1))) J)))))) : mm_s SL xs (d + 6) 38 [.ref 29, .int a0] (hp p s q I J) Q := by
  refine e_X3_tryRules rfl ?_
  refine sp_aload_n 1 rfl rfl rfl ?_
  refine sp_iconst 2 rfl rfl ?_
  refine hq_putI 5 rfl rfl rfl ?_
  refine sp_aload_n 6 rfl rfl rfl ?_
  refine sp_iconst 7 rfl rfl ?_
  refine hq_putI 10 rfl rfl rfl ?_
  refine sp_aload_n 11 rfl rfl rfl ?_
  refine hq_getI 14 rfl rfl rfl ?_
  refine sp_I (y := (I 29 1)) (by simp [mm_u]) ?_
  refine sp_if_eq 17 rfl rfl (fun q => ?_) (fun q => ?_)
  · have k := k.1 q
    exact st_vret rfl rfl (Nat.le_refl _) (Nat.le_refl _) k
  · have k := k.2 q
    refine sp_aload_n 18 rfl rfl rfl ?_
    refine hq_getI 21 rfl rfl rfl ?_
    refine sp_I (y := (I 29 1)) (by simp [mm_u]) ?_
    refine sp_iload_n 22 rfl rfl rfl ?_
    refine sp_ic_le 25 rfl rfl (fun q => ?_) (fun q => ?_)
    · have k := k.1 q
      refine sp_ldc 28 rfl rfl ?_
      refine sp_istore_n 29 rfl rfl rfl ?_
      refine sp_iconst 30 rfl rfl ?_
      refine sp_istore_n 31 rfl rfl rfl ?_
      exact k
    · have k := k.2 q
      exact st_vret rfl rfl (Nat.le_refl _) (Nat.le_refl _) k
theorem sg_X3_tryRules_31 {SL : Nat} {xs : Nat → Int32} {d : Nat} {p s q : Nat} {Q : Option Value → mm_H → Prop} {v1 : Int32} {v2 : Int32} {v3 : Int32} {I : Nat → Nat → Int32} {J : Nat → Nat → Int64}  (k : (((Int32.ofInt 12) < v3 → Q none (hp p s q I J)) ∧ (¬ ((Int32.ofInt 12) < v3) → w_X3_tryRules_40 SL xs d p s q Q v1 v2 v3 (Int32.ofInt 1) I J))) : w_X3_tryRules_31 SL xs d p s q Q v1 v2 v3 I J := by
  unfold w_X3_tryRules_31
  refine sp_iload_n 32 rfl rfl rfl ?_
  refine sp_bipush 34 rfl rfl ?_
  refine sp_I (y := Int32.ofInt 12) rfl ?_
  refine sp_ic_gt 37 rfl rfl (fun q => ?_) (fun q => ?_)
  · have k := k.1 q
    exact st_vret rfl rfl (Nat.le_refl _) (Nat.le_refl _) k
  · have k := k.2 q
    refine sp_iconst 38 rfl rfl ?_
    refine sp_istore 40 rfl rfl rfl ?_
    exact k
theorem sg_X3_tryRules_40 {SL : Nat} {xs : Nat → Int32} {d : Nat} {p s q : Nat} {Q : Option Value → mm_H → Prop} {v1 : Int32} {v2 : Int32} {v3 : Int32} {v4 : Int32} {I : Nat → Nat → Int32} {J : Nat → Nat → Int64}  (k : (((Int32.ofInt 12) < v4 → w_X3_tryRules_31 SL xs d p s q Q v1 v2 (v3 + Int32.ofInt 1) I J) ∧ (¬ ((Int32.ofInt 12) < v4) → w_X3_tryRules_50 SL xs d p s q Q v1 v2 v3 v4 (Int32.ofInt 0) I J))) : w_X3_tryRules_40 SL xs d p s q Q v1 v2 v3 v4 I J := by
  unfold w_X3_tryRules_40
  refine sp_iload 42 rfl rfl rfl ?_
  refine sp_bipush 44 rfl rfl ?_
  refine sp_I (y := Int32.ofInt 12) rfl ?_
  refine sp_ic_gt 47 rfl rfl (fun q => ?_) (fun q => ?_)
  · have k := k.1 q
    refine sp_iinc 132 rfl rfl rfl rfl ?_
    refine sp_goto rfl ?_
    refine st_wk (L1 := [some (.ref 29), some (.int v1), some (.int v2), some (.int (v3 + Int32.ofInt 1)), none, none]) ⟨.inr rfl, .inr rfl, .inr rfl, .inr rfl, .inl rfl, .inl rfl, trivial⟩ ?_
    exact k
  · have k := k.2 q
    refine sp_iconst 48 rfl rfl ?_
    refine sp_istore 50 rfl rfl rfl ?_
    exact k
theorem sg_X3_tryRules_50 {SL : Nat} {xs : Nat → Int32} {d : Nat} {p s q : Nat} {Q : Option Value → mm_H → Prop} {v1 : Int32} {v2 : Int32} {v3 : Int32} {v4 : Int32} {v5 : Int32} {I : Nat → Nat → Int32} {J : Nat → Nat → Int64}  (k : (((Int32.ofInt 6) < v5 → w_X3_tryRules_40 SL xs d p s q Q v1 v2 v3 (v4 + Int32.ofInt 1) I J) ∧ (¬ ((Int32.ofInt 6) < v5) → (mm_s SL xs (d + 5) 39 [.ref 29, .int v1, .int v3, .int v4, .int v5] (hp p s q I J) (fun r_ h_ => ∃ x1 I1 J1, r_ = some (.int x1) ∧ h_ = hp p s q I1 J1 ∧ ((x1 = Int32.ofInt 0 → w_X3_tryRules_50 SL xs d p s q Q v1 v2 v3 v4 (v5 + Int32.ofInt 1) I1 J1) ∧ (¬ (x1 = Int32.ofInt 0) → ((v2 ≤ ((v3 + v4) + v5) → w_X3_tryRules_50 SL xs d p s q Q v1 v2 v3 v4 (v5 + Int32.ofInt 1) (mm_u I1 29 2 ((I1 29 2) + (Int32.ofInt 1))) J1) ∧ (¬ (v2 ≤ ((v3 + v4) + v5)) → w_X3_tryRules_50 SL xs d p s q Q v1 ((v3 + v4) + v5) v3 v4 (v5 + Int32.ofInt 1) (mm_u (mm_u I1 29 2 ((I1 29 2) + (Int32.ofInt 1))) 29 3 ((((Int32.ofInt 10000) * v3) + ((Int32.ofInt 100) * v4)) + v5)) J1))))))))) : w_X3_tryRules_50 SL xs d p s q Q v1 v2 v3 v4 v5 I J := by
  unfold w_X3_tryRules_50
  refine sp_iload 52 rfl rfl rfl ?_
  refine sp_bipush 54 rfl rfl ?_
  refine sp_I (y := Int32.ofInt 6) rfl ?_
  refine sp_ic_gt 57 rfl rfl (fun q => ?_) (fun q => ?_)
  · have k := k.1 q
    refine sp_iinc 126 rfl rfl rfl rfl ?_
    refine sp_goto rfl ?_
    refine st_wk (L1 := [some (.ref 29), some (.int v1), some (.int v2), some (.int v3), some (.int (v4 + Int32.ofInt 1)), none]) ⟨.inr rfl, .inr rfl, .inr rfl, .inr rfl, .inr rfl, .inl rfl, trivial⟩ ?_
    exact k
  · have k := k.2 q
    refine sp_aload_n 58 rfl rfl rfl ?_
    refine sp_iload_n 59 rfl rfl rfl ?_
    refine sp_iload_n 60 rfl rfl rfl ?_
    refine sp_iload 62 rfl rfl rfl ?_
    refine sp_iload 64 rfl rfl rfl ?_
    refine sc_V 67 rfl rfl rfl rfl rfl (Nat.le_refl _) (Nat.le_refl _) rfl ?_
    refine mm_s_mono _ _ _ _ _ _ ?_ k
    rintro r_ h_ ⟨x1, I1, J1, rfl, rfl, k⟩
    refine sp_if_eq 70 rfl rfl (fun q => ?_) (fun q => ?_)
    · have k := k.1 q
      refine sp_iinc 120 rfl rfl rfl rfl ?_
      refine sp_goto rfl ?_
      exact k
    · have k := k.2 q
      refine sp_aload_n 71 rfl rfl rfl ?_
      refine sp_dup 72 rfl rfl rfl ?_
      refine hq_getI 75 rfl rfl rfl ?_
      refine sp_iconst 76 rfl rfl ?_
      refine sp_iadd 77 rfl rfl ?_
      refine hq_putI 80 rfl rfl rfl ?_
      refine sp_iload_n 81 rfl rfl rfl ?_
      refine sp_iload 83 rfl rfl rfl ?_
      refine sp_iadd 84 rfl rfl ?_
      refine sp_iload 86 rfl rfl rfl ?_
      refine sp_iadd 87 rfl rfl ?_
      refine sp_iload_n 88 rfl rfl rfl ?_
      refine sp_ic_ge 91 rfl rfl (fun q => ?_) (fun q => ?_)
      · have k := k.1 q
        refine sp_iinc 120 rfl rfl rfl rfl ?_
        refine sp_goto rfl ?_
        exact k
      · have k := k.2 q
        refine sp_iload_n 92 rfl rfl rfl ?_
        refine sp_iload 94 rfl rfl rfl ?_
        refine sp_iadd 95 rfl rfl ?_
        refine sp_iload 97 rfl rfl rfl ?_
        refine sp_iadd 98 rfl rfl ?_
        refine sp_istore_n 99 rfl rfl rfl ?_
        refine sp_aload_n 100 rfl rfl rfl ?_
        refine sp_sipush 103 rfl rfl ?_
        refine sp_I (y := Int32.ofInt 10000) rfl ?_
        refine sp_iload_n 104 rfl rfl rfl ?_
        refine sp_imul 105 rfl rfl ?_
        refine sp_bipush 107 rfl rfl ?_
        refine sp_I (y := Int32.ofInt 100) rfl ?_
        refine sp_iload 109 rfl rfl rfl ?_
        refine sp_imul 110 rfl rfl ?_
        refine sp_iadd 111 rfl rfl ?_
        refine sp_iload 113 rfl rfl rfl ?_
        refine sp_iadd 114 rfl rfl ?_
        refine hq_putI 117 rfl rfl rfl ?_
        refine sp_iinc 120 rfl rfl rfl rfl ?_
        refine sp_goto rfl ?_
        exact k
theorem sg_X0_leftOf {SL : Nat} {xs : Nat → Int32} {d : Nat} {p s q : Nat} {Q : Option Value → mm_H → Prop} {a0 : Nat} {a1 : Nat} {a2 : Int32} {I : Nat → Nat → Int32} {J : Nat → Nat → Int64}  (k : (mm_s SL xs (d + 6) 14 [.ref 21, .ref a1] (hp p s q I J) (fun r_ h_ => ∃ I1 J1, r_ = none ∧ h_ = hp p s q I1 J1 ∧ (mm_s SL xs (d + 6) 19 [.ref 21, .ref a0, .int a2, .int (Int32.ofInt 1000)] (hp p s q I1 J1) (fun r_ h_ => ∃ x2 I2 J2, r_ = some (.int x2) ∧ h_ = hp p s q I2 J2 ∧ Q (some (.long (J2 21 1))) (hp p s q I2 J2)))))) : mm_s SL xs (d + 7) 1 [.ref 20, .ref a0, .ref a1, .int a2] (hp p s q I J) Q := by
  refine e_X0_leftOf rfl ?_
  refine sp_aload_n 1 rfl rfl rfl ?_
  refine hq_getR 4 rfl rfl rfl rfl ?_
  refine sp_aload_n 5 rfl rfl rfl ?_
  refine sc_V 8 rfl rfl rfl rfl rfl (Nat.le_refl _) (Nat.le_refl _) rfl ?_
  refine mm_s_mono _ _ _ _ _ _ ?_ k
  rintro r_ h_ ⟨I1, J1, rfl, rfl, k⟩
  refine sp_aload_n 9 rfl rfl rfl ?_
  refine hq_getR 12 rfl rfl rfl rfl ?_
  refine sp_aload_n 13 rfl rfl rfl ?_
  refine sp_iload_n 14 rfl rfl rfl ?_
  refine sp_sipush 17 rfl rfl ?_
  refine sp_I (y := Int32.ofInt 1000) rfl ?_
  refine sc_V 20 rfl rfl rfl rfl rfl (Nat.le_refl _) (Nat.le_refl _) rfl ?_
  refine mm_s_mono _ _ _ _ _ _ ?_ k
  rintro r_ h_ ⟨x2, I2, J2, rfl, rfl, k⟩
  refine sp_pop 21 rfl rfl rfl ?_
  refine sp_aload_n 22 rfl rfl rfl ?_
  refine hq_getR 25 rfl rfl rfl rfl ?_
  refine hq_getJ 28 rfl rfl rfl ?_
  exact st_lret rfl rfl (Nat.le_refl _) (Nat.le_refl _) k
def w_X0_goodFor_28 (SL : Nat) (xs : Nat → Int32) (d : Nat) (p s q : Nat) (Q : Option Value → mm_H → Prop) (a0 : Nat) (a1 : Nat) (v3 : Int32) (v4 : Int64) (v6 : Int32) (I : Nat → Nat → Int32) (J : Nat → Nat → Int64) : Prop := mm_w SL xs (mm_s SL xs (d + 6)) mm_am kX0_goodFor 0 0 (some .long) Q 28 [some (.ref 20), some (.ref a0), some (.ref a1), some (.int v3), some (.long v4), none, some (.int v6)] [] (hp p s q I J) 0 0
theorem sg_X0_goodFor {SL : Nat} {xs : Nat → Int32} {d : Nat} {p s q : Nat} {Q : Option Value → mm_H → Prop} {a0 : Nat} {a1 : Nat} {a2 : Int32} {I : Nat → Nat → Int32} {J : Nat → Nat → Int64} (h_a0 : isP a0) (k : (mm_s SL xs (d + 6) 14 [.ref 21, .ref a1] (hp p s q I J) (fun r_ h_ => ∃ I1 J1, r_ = none ∧ h_ = hp p s q I1 J1 ∧ (mm_s SL xs (d + 6) 19 [.ref 21, .ref a0, .int (I1 a0 2), .int a2] (hp p s q I1 J1) (fun r_ h_ => ∃ x2 I2 J2, r_ = some (.int x2) ∧ h_ = hp p s q I2 J2 ∧ w_X0_goodFor_28 SL xs d p s q Q a0 a1 a2 (Int64.ofInt 0) (Int32.ofInt 0) I2 J2))))) : mm_s SL xs (d + 7) 3 [.ref 20, .ref a0, .ref a1, .int a2] (hp p s q I J) Q := by
  refine e_X0_goodFor rfl ?_
  refine sp_aload_n 1 rfl rfl rfl ?_
  refine hq_getR 4 rfl rfl rfl rfl ?_
  refine sp_aload_n 5 rfl rfl rfl ?_
  refine sc_V 8 rfl rfl rfl rfl rfl (Nat.le_refl _) (Nat.le_refl _) rfl ?_
  refine mm_s_mono _ _ _ _ _ _ ?_ k
  rintro r_ h_ ⟨I1, J1, rfl, rfl, k⟩
  refine sp_aload_n 9 rfl rfl rfl ?_
  refine hq_getR 12 rfl rfl rfl rfl ?_
  refine sp_aload_n 13 rfl rfl rfl ?_
  refine sp_aload_n 14 rfl rfl rfl ?_
  refine hq_getI 17 rfl (kP0 h_a0) rfl ?_
  refine sp_iload_n 18 rfl rfl rfl ?_
  refine sc_V 21 rfl rfl rfl rfl rfl (Nat.le_refl _) (Nat.le_refl _) rfl ?_
  refine mm_s_mono _ _ _ _ _ _ ?_ k
  rintro r_ h_ ⟨x2, I2, J2, rfl, rfl, k⟩
  refine sp_pop 22 rfl rfl rfl ?_
  refine sp_lconst 23 rfl rfl ?_
  refine sp_J (y := Int64.ofInt 0) rfl ?_
  refine sp_lstore 25 rfl rfl rfl ?_
  refine sp_iconst 26 rfl rfl ?_
  refine sp_istore 28 rfl rfl rfl ?_
  exact k
theorem sg_X0_goodFor_28 {SL : Nat} {xs : Nat → Int32} {d : Nat} {p s q : Nat} {Q : Option Value → mm_H → Prop} {a0 : Nat} {a1 : Nat} {v3 : Int32} {v4 : Int64} {v6 : Int32} {I : Nat → Nat → Int32} {J : Nat → Nat → Int64} (h_a0 : isP a0) (k : (((I a0 0) ≤ v6 → Q (some (.long v4)) (hp p s q I J)) ∧ (¬ ((I a0 0) ≤ v6) → (((sy_X1_standsAt 21 v6 I J) = Int32.ofInt 0 → (mm_s SL xs (d + 6) 14 [.ref 25, .ref 21] (hp p s q I J) (fun r_ h_ => ∃ I1 J1, r_ = none ∧ h_ = hp p s q I1 J1 ∧ (mm_s SL xs (d + 6) 18 [.ref 25, .int v6] (hp p s q I1 J1) (fun r_ h_ => ∃ I2 J2, r_ = none ∧ h_ = hp p s q I2 J2 ∧ (mm_s SL xs (d + 6) 5 [.ref 20, .ref a0, .int v6] (hp p s q I2 J2) (fun r_ h_ => ∃ x3 I3 J3, r_ = some (.int x3) ∧ h_ = hp p s q I3 J3 ∧ ((x3 = Int32.ofInt 0 → w_X0_goodFor_28 SL xs d p s q Q a0 a1 v3 v4 (v6 + Int32.ofInt 1) I3 J3) ∧ (¬ (x3 = Int32.ofInt 0) → w_X0_goodFor_28 SL xs d p s q Q a0 a1 v3 (v4 ||| (sx_X6_bit v6)) (v6 + Int32.ofInt 1) I3 J3))))))))) ∧ (¬ ((sy_X1_standsAt 21 v6 I J) = Int32.ofInt 0) → w_X0_goodFor_28 SL xs d p s q Q a0 a1 v3 v4 (v6 + Int32.ofInt 1) I J))))) : w_X0_goodFor_28 SL xs d p s q Q a0 a1 v3 v4 v6 I J := by
  unfold w_X0_goodFor_28
  refine sp_iload 30 rfl rfl rfl ?_
  refine sp_aload_n 31 rfl rfl rfl ?_
  refine hq_getI 34 rfl (kP0 h_a0) rfl ?_
  refine sp_ic_ge 37 rfl rfl (fun q => ?_) (fun q => ?_)
  · have k := k.1 q
    refine sp_lload 97 rfl rfl rfl ?_
    exact st_lret rfl rfl (Nat.le_refl _) (Nat.le_refl _) k
  · have k := k.2 q
    refine sp_aload_n 38 rfl rfl rfl ?_
    refine hq_getR 41 rfl rfl rfl rfl ?_
    refine sp_iload 43 rfl rfl rfl ?_
    refine sc_V 46 rfl rfl rfl rfl rfl (Nat.le_refl _) (Nat.le_refl _) rfl ?_
    refine cy_X1_standsAt isC_21 ?_
    refine sp_if_ne 49 rfl rfl (fun q => ?_) (fun q => ?_)
    · have k := k.2 q
      refine sp_iinc 92 rfl rfl rfl rfl ?_
      refine sp_goto rfl ?_
      exact k
    · have k := k.1 q
      refine sp_aload_n 50 rfl rfl rfl ?_
      refine hq_getR 53 rfl rfl rfl rfl ?_
      refine sp_aload_n 54 rfl rfl rfl ?_
      refine hq_getR 57 rfl rfl rfl rfl ?_
      refine sc_V 60 rfl rfl rfl rfl rfl (Nat.le_refl _) (Nat.le_refl _) rfl ?_
      refine mm_s_mono _ _ _ _ _ _ ?_ k
      rintro r_ h_ ⟨I1, J1, rfl, rfl, k⟩
      refine sp_aload_n 61 rfl rfl rfl ?_
      refine hq_getR 64 rfl rfl rfl rfl ?_
      refine sp_iload 66 rfl rfl rfl ?_
      refine sc_V 69 rfl rfl rfl rfl rfl (Nat.le_refl _) (Nat.le_refl _) rfl ?_
      refine mm_s_mono _ _ _ _ _ _ ?_ k
      rintro r_ h_ ⟨I2, J2, rfl, rfl, k⟩
      refine sp_aload_n 70 rfl rfl rfl ?_
      refine sp_aload_n 71 rfl rfl rfl ?_
      refine sp_iload 73 rfl rfl rfl ?_
      refine sc_V 76 rfl rfl rfl rfl rfl (Nat.le_refl _) (Nat.le_refl _) rfl ?_
      refine mm_s_mono _ _ _ _ _ _ ?_ k
      rintro r_ h_ ⟨x3, I3, J3, rfl, rfl, k⟩
      refine sp_if_eq 79 rfl rfl (fun q => ?_) (fun q => ?_)
      · have k := k.1 q
        refine sp_iinc 92 rfl rfl rfl rfl ?_
        refine sp_goto rfl ?_
        exact k
      · have k := k.2 q
        refine sp_lload 81 rfl rfl rfl ?_
        refine sp_iload 83 rfl rfl rfl ?_
        refine sc_S 86 rfl rfl rfl rfl (Nat.le_refl _) (Nat.le_refl _) rfl ?_
        refine cx_X6_bit ?_
        refine sp_lor 87 rfl rfl ?_
        refine sp_lstore 89 rfl rfl rfl ?_
        refine sp_iinc 92 rfl rfl rfl rfl ?_
        refine sp_goto rfl ?_
        exact k
def w_X0_beginsFor_5 (SL : Nat) (xs : Nat → Int32) (d : Nat) (p s q : Nat) (Q : Option Value → mm_H → Prop) (a0 : Nat) (v2 : Int32) (v3 : Int64) (v5 : Int32) (I : Nat → Nat → Int32) (J : Nat → Nat → Int64) : Prop := mm_w SL xs (mm_s SL xs (d + 6)) mm_am kX0_beginsFor 0 0 (some .long) Q 5 [some (.ref 20), some (.ref a0), some (.int v2), some (.long v3), none, some (.int v5)] [] (hp p s q I J) 0 0
theorem sg_X0_beginsFor {SL : Nat} {xs : Nat → Int32} {d : Nat} {p s q : Nat} {Q : Option Value → mm_H → Prop} {a0 : Nat} {a1 : Int32} {I : Nat → Nat → Int32} {J : Nat → Nat → Int64}  (k : w_X0_beginsFor_5 SL xs d p s q Q a0 a1 (Int64.ofInt 0) (Int32.ofInt 0) I J) : mm_s SL xs (d + 7) 8 [.ref 20, .ref a0, .int a1] (hp p s q I J) Q := by
  refine e_X0_beginsFor rfl ?_
  refine sp_lconst 1 rfl rfl ?_
  refine sp_J (y := Int64.ofInt 0) rfl ?_
  refine sp_lstore_n 2 rfl rfl rfl ?_
  refine sp_iconst 3 rfl rfl ?_
  refine sp_istore 5 rfl rfl rfl ?_
  exact k
theorem sg_X0_beginsFor_5 {SL : Nat} {xs : Nat → Int32} {d : Nat} {p s q : Nat} {Q : Option Value → mm_H → Prop} {a0 : Nat} {v2 : Int32} {v3 : Int64} {v5 : Int32} {I : Nat → Nat → Int32} {J : Nat → Nat → Int64} (h_a0 : isP a0) (k : (((I a0 0) ≤ v5 → Q (some (.long v3)) (hp p s q I J)) ∧ (¬ ((I a0 0) ≤ v5) → (mm_s SL xs (d + 6) 13 [.ref 25, .ref a0, .int v5] (hp p s q I J) (fun r_ h_ => ∃ I1 J1, r_ = none ∧ h_ = hp p s q I1 J1 ∧ (mm_s SL xs (d + 6) 5 [.ref 20, .ref a0, .int v2] (hp p s q I1 J1) (fun r_ h_ => ∃ x2 I2 J2, r_ = some (.int x2) ∧ h_ = hp p s q I2 J2 ∧ ((x2 = Int32.ofInt 0 → w_X0_beginsFor_5 SL xs d p s q Q a0 v2 v3 (v5 + Int32.ofInt 1) I2 J2) ∧ (¬ (x2 = Int32.ofInt 0) → w_X0_beginsFor_5 SL xs d p s q Q a0 v2 (v3 ||| (sx_X6_bit v5)) (v5 + Int32.ofInt 1) I2 J2))))))))) : w_X0_beginsFor_5 SL xs d p s q Q a0 v2 v3 v5 I J := by
  unfold w_X0_beginsFor_5
  refine sp_iload 7 rfl rfl rfl ?_
  refine sp_aload_n 8 rfl rfl rfl ?_
  refine hq_getI 11 rfl (kP0 h_a0) rfl ?_
  refine sp_ic_ge 14 rfl rfl (fun q => ?_) (fun q => ?_)
  · have k := k.1 q
    refine sp_lload_n 48 rfl rfl rfl ?_
    exact st_lret rfl rfl (Nat.le_refl _) (Nat.le_refl _) k
  · have k := k.2 q
    refine sp_aload_n 15 rfl rfl rfl ?_
    refine hq_getR 18 rfl rfl rfl rfl ?_
    refine sp_aload_n 19 rfl rfl rfl ?_
    refine sp_iload 21 rfl rfl rfl ?_
    refine sc_V 24 rfl rfl rfl rfl rfl (Nat.le_refl _) (Nat.le_refl _) rfl ?_
    refine mm_s_mono _ _ _ _ _ _ ?_ k
    rintro r_ h_ ⟨I1, J1, rfl, rfl, k⟩
    refine sp_aload_n 25 rfl rfl rfl ?_
    refine sp_aload_n 26 rfl rfl rfl ?_
    refine sp_iload_n 27 rfl rfl rfl ?_
    refine sc_V 30 rfl rfl rfl rfl rfl (Nat.le_refl _) (Nat.le_refl _) rfl ?_
    refine mm_s_mono _ _ _ _ _ _ ?_ k
    rintro r_ h_ ⟨x2, I2, J2, rfl, rfl, k⟩
    refine sp_if_eq 33 rfl rfl (fun q => ?_) (fun q => ?_)
    · have k := k.1 q
      refine sp_iinc 44 rfl rfl rfl rfl ?_
      refine sp_goto rfl ?_
      exact k
    · have k := k.2 q
      refine sp_lload_n 34 rfl rfl rfl ?_
      refine sp_iload 36 rfl rfl rfl ?_
      refine sc_S 39 rfl rfl rfl rfl (Nat.le_refl _) (Nat.le_refl _) rfl ?_
      refine cx_X6_bit ?_
      refine sp_lor 40 rfl rfl ?_
      refine sp_lstore_n 41 rfl rfl rfl ?_
      refine sp_iinc 44 rfl rfl rfl rfl ?_
      refine sp_goto rfl ?_
      exact k
def w_X0_choiceFor_27 (SL : Nat) (xs : Nat → Int32) (d : Nat) (p s q : Nat) (Q : Option Value → mm_H → Prop) (a0 : Nat) (v2 : Int64) (v4 : Int32) (I : Nat → Nat → Int32) (J : Nat → Nat → Int64) : Prop := mm_w SL xs (mm_s SL xs (d + 6)) mm_am kX0_choiceFor 0 0 (some .int) Q 27 [some (.ref 20), some (.ref a0), some (.long v2), none, some (.int v4)] [] (hp p s q I J) 0 0
theorem sg_X0_choiceFor {SL : Nat} {xs : Nat → Int32} {d : Nat} {p s q : Nat} {Q : Option Value → mm_H → Prop} {a0 : Nat} {a1 : Int64} {I : Nat → Nat → Int32} {J : Nat → Nat → Int64} (h_a0 : isP a0) (k : (((sx_J13_bitCount_95d88 a1) ≤ (I a0 2) → w_X0_choiceFor_27 SL xs d p s q Q a0 a1 (Int32.ofInt 1) I J) ∧ (¬ ((sx_J13_bitCount_95d88 a1) ≤ (I a0 2)) → (((I a0 0) ≤ (I a0 2) → w_X0_choiceFor_27 SL xs d p s q Q a0 a1 (Int32.ofInt 1) I J) ∧ (¬ ((I a0 0) ≤ (I a0 2)) → Q (some (.int (Int32.ofInt (-1)))) (hp p s q I J)))))) : mm_s SL xs (d + 7) 9 [.ref 20, .ref a0, .long a1] (hp p s q I J) Q := by
  refine e_X0_choiceFor rfl ?_
  refine sp_lload_n 1 rfl rfl rfl ?_
  refine sc_S 4 rfl rfl rfl rfl (Nat.le_refl _) (Nat.le_refl _) rfl ?_
  refine cx_J13_bitCount_95d88 ?_
  refine sp_aload_n 5 rfl rfl rfl ?_
  refine hq_getI 8 rfl (kP0 h_a0) rfl ?_
  refine sp_ic_le 11 rfl rfl (fun q => ?_) (fun q => ?_)
  · have k := k.1 q
    refine sp_iconst 25 rfl rfl ?_
    refine sp_istore 27 rfl rfl rfl ?_
    exact k
  · have k := k.2 q
    refine sp_aload_n 12 rfl rfl rfl ?_
    refine hq_getI 15 rfl (kP0 h_a0) rfl ?_
    refine sp_aload_n 16 rfl rfl rfl ?_
    refine hq_getI 19 rfl (kP0 h_a0) rfl ?_
    refine sp_ic_le 22 rfl rfl (fun q => ?_) (fun q => ?_)
    · have k := k.1 q
      refine sp_iconst 25 rfl rfl ?_
      refine sp_istore 27 rfl rfl rfl ?_
      exact k
    · have k := k.2 q
      refine sp_iconst 23 rfl rfl ?_
      exact st_iret rfl rfl (Nat.le_refl _) (Nat.le_refl _) k
theorem sg_X0_choiceFor_27 {SL : Nat} {xs : Nat → Int32} {d : Nat} {p s q : Nat} {Q : Option Value → mm_H → Prop} {a0 : Nat} {v2 : Int64} {v4 : Int32} {I : Nat → Nat → Int32} {J : Nat → Nat → Int64}  (k : (((Int32.ofInt 999) < v4 → Q (some (.int (Int32.ofInt (-1)))) (hp p s q I J)) ∧ (¬ ((Int32.ofInt 999) < v4) → (mm_s SL xs (d + 6) 10 [.ref 20, .ref a0, .long v2, .int v4] (hp p s q I J) (fun r_ h_ => ∃ x1 I1 J1, r_ = some (.int x1) ∧ h_ = hp p s q I1 J1 ∧ ((x1 = Int32.ofInt 0 → w_X0_choiceFor_27 SL xs d p s q Q a0 v2 (v4 + Int32.ofInt 1) I1 J1) ∧ (¬ (x1 = Int32.ofInt 0) → Q (some (.int v4)) (hp p s q I1 J1)))))))) : w_X0_choiceFor_27 SL xs d p s q Q a0 v2 v4 I J := by
  unfold w_X0_choiceFor_27
  refine sp_iload 29 rfl rfl rfl ?_
  refine sp_sipush 32 rfl rfl ?_
  refine sp_I (y := Int32.ofInt 999) rfl ?_
  refine sp_ic_gt 35 rfl rfl (fun q => ?_) (fun q => ?_)
  · have k := k.1 q
    refine sp_iconst 56 rfl rfl ?_
    exact st_iret rfl rfl (Nat.le_refl _) (Nat.le_refl _) k
  · have k := k.2 q
    refine sp_aload_n 36 rfl rfl rfl ?_
    refine sp_aload_n 37 rfl rfl rfl ?_
    refine sp_lload_n 38 rfl rfl rfl ?_
    refine sp_iload 40 rfl rfl rfl ?_
    refine sc_V 43 rfl rfl rfl rfl rfl (Nat.le_refl _) (Nat.le_refl _) rfl ?_
    refine mm_s_mono _ _ _ _ _ _ ?_ k
    rintro r_ h_ ⟨x1, I1, J1, rfl, rfl, k⟩
    refine sp_if_eq 46 rfl rfl (fun q => ?_) (fun q => ?_)
    · have k := k.1 q
      refine sp_iinc 52 rfl rfl rfl rfl ?_
      refine sp_goto rfl ?_
      exact k
    · have k := k.2 q
      refine sp_iload 48 rfl rfl rfl ?_
      exact st_iret rfl rfl (Nat.le_refl _) (Nat.le_refl _) k
theorem sg_X0_wholeCourse {SL : Nat} {xs : Nat → Int32} {d : Nat} {p s q : Nat} {Q : Option Value → mm_H → Prop} {a0 : Nat} {I : Nat → Nat → Int32} {J : Nat → Nat → Int64} (h_a0 : isP a0) (k : (mm_s SL xs (d + 6) 13 [.ref 21, .ref a0, .int (I a0 1)] (hp p s q I J) (fun r_ h_ => ∃ I1 J1, r_ = none ∧ h_ = hp p s q I1 J1 ∧ (mm_s SL xs (d + 6) 19 [.ref 21, .ref a0, .int (I1 a0 2), .int (Int32.ofInt 1000)] (hp p s q I1 J1) (fun r_ h_ => ∃ x2 I2 J2, r_ = some (.int x2) ∧ h_ = hp p s q I2 J2 ∧ Q (some (.ref 21)) (hp p s q I2 J2)))))) : mm_s SL xs (d + 7) 11 [.ref 20, .ref a0] (hp p s q I J) Q := by
  refine e_X0_wholeCourse rfl ?_
  refine sp_aload_n 1 rfl rfl rfl ?_
  refine hq_getR 4 rfl rfl rfl rfl ?_
  refine sp_aload_n 5 rfl rfl rfl ?_
  refine sp_aload_n 6 rfl rfl rfl ?_
  refine hq_getI 9 rfl (kP0 h_a0) rfl ?_
  refine sc_V 12 rfl rfl rfl rfl rfl (Nat.le_refl _) (Nat.le_refl _) rfl ?_
  refine mm_s_mono _ _ _ _ _ _ ?_ k
  rintro r_ h_ ⟨I1, J1, rfl, rfl, k⟩
  refine sp_aload_n 13 rfl rfl rfl ?_
  refine hq_getR 16 rfl rfl rfl rfl ?_
  refine sp_aload_n 17 rfl rfl rfl ?_
  refine sp_aload_n 18 rfl rfl rfl ?_
  refine hq_getI 21 rfl (kP0 h_a0) rfl ?_
  refine sp_sipush 24 rfl rfl ?_
  refine sp_I (y := Int32.ofInt 1000) rfl ?_
  refine sc_V 27 rfl rfl rfl rfl rfl (Nat.le_refl _) (Nat.le_refl _) rfl ?_
  refine mm_s_mono _ _ _ _ _ _ ?_ k
  rintro r_ h_ ⟨x2, I2, J2, rfl, rfl, k⟩
  refine sp_pop 28 rfl rfl rfl ?_
  refine sp_aload_n 29 rfl rfl rfl ?_
  refine hq_getR 32 rfl rfl rfl rfl ?_
  exact st_aret rfl rfl (Nat.le_refl _) (Nat.le_refl _) k
theorem sg_X0_goingOf {SL : Nat} {xs : Nat → Int32} {d : Nat} {p s q : Nat} {Q : Option Value → mm_H → Prop} {a0 : Nat} {a1 : Nat} {a2 : Int32} {I : Nat → Nat → Int32} {J : Nat → Nat → Int64} (h_a0 : isP a0) (h_a1 : isC a1) (k : (((sy_X1_standsAt a1 a2 I J) = Int32.ofInt 0 → Q (some (.int (Int32.ofInt (-1)))) (hp p s q I J)) ∧ (¬ ((sy_X1_standsAt a1 a2 I J) = Int32.ofInt 0) → ((a2 < Int32.ofInt 0 → Q (some (.int (Int32.ofInt (-1)))) (hp p s q I J)) ∧ (¬ (a2 < Int32.ofInt 0) → ((a2 < (Int32.ofInt 60) → (mm_s SL xs (d + 7) 1 [.ref 20, .ref a0, .ref a1, .int (I a0 2)] (hp p s q I J) (fun r_ h_ => ∃ x1 I1 J1, r_ = some (.long x1) ∧ h_ = hp p s q I1 J1 ∧ (vp_in a2 60 ∧ Q (some (.int (I1 23 ((a2).toNatClampNeg)))) (hp p s q I1 J1))))) ∧ (¬ (a2 < (Int32.ofInt 60)) → Q (some (.int (Int32.ofInt (-1)))) (hp p s q I J)))))))) : mm_s SL xs (d + 8) 2 [.ref 20, .ref a0, .ref a1, .int a2] (hp p s q I J) Q := by
  refine e_X0_goingOf rfl ?_
  refine sp_aload_n 1 rfl rfl rfl ?_
  refine sp_iload_n 2 rfl rfl rfl ?_
  refine sc_V 5 rfl rfl (kC0 h_a1) rfl rfl (Nat.le_refl _) (Nat.le_refl _) rfl ?_
  refine cy_X1_standsAt h_a1 ?_
  refine sp_if_eq 8 rfl rfl (fun q => ?_) (fun q => ?_)
  · have k := k.1 q
    refine sp_iconst 19 rfl rfl ?_
    exact st_iret rfl rfl (Nat.le_refl _) (Nat.le_refl _) k
  · have k := k.2 q
    refine sp_iload_n 9 rfl rfl rfl ?_
    refine sp_if_lt 12 rfl rfl (fun q => ?_) (fun q => ?_)
    · have k := k.1 q
      refine sp_iconst 19 rfl rfl ?_
      exact st_iret rfl rfl (Nat.le_refl _) (Nat.le_refl _) k
    · have k := k.2 q
      refine sp_iload_n 13 rfl rfl rfl ?_
      refine sp_bipush 15 rfl rfl ?_
      refine sp_I (y := Int32.ofInt 60) rfl ?_
      refine sp_ic_lt 18 rfl rfl (fun q => ?_) (fun q => ?_)
      · have k := k.1 q
        refine sp_aload_n 21 rfl rfl rfl ?_
        refine sp_aload_n 22 rfl rfl rfl ?_
        refine sp_aload_n 23 rfl rfl rfl ?_
        refine sp_aload_n 24 rfl rfl rfl ?_
        refine hq_getI 27 rfl (kP0 h_a0) rfl ?_
        refine sc_V 30 rfl rfl rfl rfl rfl (Nat.le_refl _) (Nat.le_refl _) rfl ?_
        refine mm_s_mono _ _ _ _ _ _ ?_ k
        rintro r_ h_ ⟨x1, I1, J1, rfl, rfl, k⟩
        refine sp_pop2 31 rfl rfl rfl ?_
        refine sp_aload_n 32 rfl rfl rfl ?_
        refine hq_getR 35 rfl rfl rfl rfl ?_
        refine hq_getR 38 rfl rfl rfl rfl ?_
        refine sp_iload_n 39 rfl rfl rfl ?_
        have n1_ := k.1
        have k := k.2
        refine hq_iald 40 rfl rfl n1_ rfl ?_
        exact st_iret rfl rfl (Nat.le_refl _) (Nat.le_refl _) k
      · have k := k.2 q
        refine sp_iconst 19 rfl rfl ?_
        exact st_iret rfl rfl (Nat.le_refl _) (Nat.le_refl _) k
def w_X0_bribeFor_38 (SL : Nat) (xs : Nat → Int32) (d : Nat) (p s q : Nat) (Q : Option Value → mm_H → Prop) (a0 : Nat) (a1 : Nat) (v3 : Int32) (v4 : Int32) (I : Nat → Nat → Int32) (J : Nat → Nat → Int64) : Prop := mm_w SL xs (mm_s SL xs (d + 7)) mm_am kX0_bribeFor 0 0 (some .int) Q 38 [some (.ref 20), some (.ref a0), some (.ref a1), some (.int v3), some (.int v4), none] [] (hp p s q I J) 0 0
theorem sg_X0_bribeFor {SL : Nat} {xs : Nat → Int32} {d : Nat} {p s q : Nat} {Q : Option Value → mm_H → Prop} {a0 : Nat} {a1 : Nat} {a2 : Int32} {I : Nat → Nat → Int32} {J : Nat → Nat → Int64} (h_a0 : isP a0) (h_a1 : isC a1) (k : (((sy_X1_standsAt a1 a2 I J) = Int32.ofInt 0 → Q (some (.int (Int32.ofInt (-1)))) (hp p s q I J)) ∧ (¬ ((sy_X1_standsAt a1 a2 I J) = Int32.ofInt 0) → (mm_s SL xs (d + 7) 1 [.ref 20, .ref a0, .ref a1, .int (I a0 2)] (hp p s q I J) (fun r_ h_ => ∃ x1 I1 J1, r_ = some (.long x1) ∧ h_ = hp p s q I1 J1 ∧ (((sx_X6_has x1 a2) = Int32.ofInt 0 → (mm_s SL xs (d + 7) 14 [.ref 21, .ref a1] (hp p s q I1 J1) (fun r_ h_ => ∃ I2 J2, r_ = none ∧ h_ = hp p s q I2 J2 ∧ w_X0_bribeFor_38 SL xs d p s q Q a0 a1 a2 (Int32.ofInt 0) I2 J2))) ∧ (¬ ((sx_X6_has x1 a2) = Int32.ofInt 0) → Q (some (.int (Int32.ofInt (-1)))) (hp p s q I1 J1)))))))) : mm_s SL xs (d + 8) 4 [.ref 20, .ref a0, .ref a1, .int a2] (hp p s q I J) Q := by
  refine e_X0_bribeFor rfl ?_
  refine sp_aload_n 1 rfl rfl rfl ?_
  refine sp_iload_n 2 rfl rfl rfl ?_
  refine sc_V 5 rfl rfl (kC0 h_a1) rfl rfl (Nat.le_refl _) (Nat.le_refl _) rfl ?_
  refine cy_X1_standsAt h_a1 ?_
  refine sp_if_eq 8 rfl rfl (fun q => ?_) (fun q => ?_)
  · have k := k.1 q
    refine sp_iconst 26 rfl rfl ?_
    exact st_iret rfl rfl (Nat.le_refl _) (Nat.le_refl _) k
  · have k := k.2 q
    refine sp_aload_n 9 rfl rfl rfl ?_
    refine sp_aload_n 10 rfl rfl rfl ?_
    refine sp_aload_n 11 rfl rfl rfl ?_
    refine sp_aload_n 12 rfl rfl rfl ?_
    refine hq_getI 15 rfl (kP0 h_a0) rfl ?_
    refine sc_V 18 rfl rfl rfl rfl rfl (Nat.le_refl _) (Nat.le_refl _) rfl ?_
    refine mm_s_mono _ _ _ _ _ _ ?_ k
    rintro r_ h_ ⟨x1, I1, J1, rfl, rfl, k⟩
    refine sp_iload_n 19 rfl rfl rfl ?_
    refine sc_S 22 rfl rfl rfl rfl (Nat.le_refl _) (Nat.le_refl _) rfl ?_
    refine cx_X6_has ?_
    refine sp_if_eq 25 rfl rfl (fun q => ?_) (fun q => ?_)
    · have k := k.1 q
      refine sp_aload_n 28 rfl rfl rfl ?_
      refine hq_getR 31 rfl rfl rfl rfl ?_
      refine sp_aload_n 32 rfl rfl rfl ?_
      refine sc_V 35 rfl rfl rfl rfl rfl (Nat.le_refl _) (Nat.le_refl _) rfl ?_
      refine mm_s_mono _ _ _ _ _ _ ?_ k
      rintro r_ h_ ⟨I2, J2, rfl, rfl, k⟩
      refine sp_iconst 36 rfl rfl ?_
      refine sp_istore 38 rfl rfl rfl ?_
      exact k
    · have k := k.2 q
      refine sp_iconst 26 rfl rfl ?_
      exact st_iret rfl rfl (Nat.le_refl _) (Nat.le_refl _) k
theorem sg_X0_bribeFor_38 {SL : Nat} {xs : Nat → Int32} {d : Nat} {p s q : Nat} {Q : Option Value → mm_H → Prop} {a0 : Nat} {a1 : Nat} {v3 : Int32} {v4 : Int32} {I : Nat → Nat → Int32} {J : Nat → Nat → Int64}  (k : (((Int32.ofInt 1000) ≤ v4 → Q (some (.int (Int32.ofInt (-1)))) (hp p s q I J)) ∧ (¬ ((Int32.ofInt 1000) ≤ v4) → (((sy_X1_standsAt 21 v3 I J) = Int32.ofInt 0 → Q (some (.int (Int32.ofInt (-1)))) (hp p s q I J)) ∧ (¬ ((sy_X1_standsAt 21 v3 I J) = Int32.ofInt 0) → (mm_s SL xs (d + 7) 20 [.ref 21, .ref a0] (hp p s q I J) (fun r_ h_ => ∃ x1 I1 J1, r_ = some (.int x1) ∧ h_ = hp p s q I1 J1 ∧ (mm_s SL xs (d + 7) 14 [.ref 25, .ref 21] (hp p s q I1 J1) (fun r_ h_ => ∃ I2 J2, r_ = none ∧ h_ = hp p s q I2 J2 ∧ (mm_s SL xs (d + 7) 21 [.ref 25, .ref a0, .int (x1 + (Int32.ofInt 1))] (hp p s q I2 J2) (fun r_ h_ => ∃ I3 J3, r_ = none ∧ h_ = hp p s q I3 J3 ∧ (mm_s SL xs (d + 7) 5 [.ref 20, .ref a0, .int v3] (hp p s q I3 J3) (fun r_ h_ => ∃ x4 I4 J4, r_ = some (.int x4) ∧ h_ = hp p s q I4 J4 ∧ ((x4 = Int32.ofInt 0 → (mm_s SL xs (d + 7) 21 [.ref 21, .ref a0, .int x1] (hp p s q I4 J4) (fun r_ h_ => ∃ I5 J5, r_ = none ∧ h_ = hp p s q I5 J5 ∧ w_X0_bribeFor_38 SL xs d p s q Q a0 a1 v3 (v4 + Int32.ofInt 1) I5 J5))) ∧ (¬ (x4 = Int32.ofInt 0) → Q (some (.int ((I4 21 2) + (Int32.ofInt 1)))) (hp p s q I4 J4)))))))))))))))) : w_X0_bribeFor_38 SL xs d p s q Q a0 a1 v3 v4 I J := by
  unfold w_X0_bribeFor_38
  refine sp_iload 40 rfl rfl rfl ?_
  refine sp_sipush 43 rfl rfl ?_
  refine sp_I (y := Int32.ofInt 1000) rfl ?_
  refine sp_ic_ge 46 rfl rfl (fun q => ?_) (fun q => ?_)
  · have k := k.1 q
    refine sp_iconst 126 rfl rfl ?_
    exact st_iret rfl rfl (Nat.le_refl _) (Nat.le_refl _) k
  · have k := k.2 q
    refine sp_aload_n 47 rfl rfl rfl ?_
    refine hq_getR 50 rfl rfl rfl rfl ?_
    refine sp_iload_n 51 rfl rfl rfl ?_
    refine sc_V 54 rfl rfl rfl rfl rfl (Nat.le_refl _) (Nat.le_refl _) rfl ?_
    refine cy_X1_standsAt isC_21 ?_
    refine sp_if_eq 57 rfl rfl (fun q => ?_) (fun q => ?_)
    · have k := k.1 q
      refine sp_iconst 126 rfl rfl ?_
      exact st_iret rfl rfl (Nat.le_refl _) (Nat.le_refl _) k
    · have k := k.2 q
      refine sp_aload_n 58 rfl rfl rfl ?_
      refine hq_getR 61 rfl rfl rfl rfl ?_
      refine sp_aload_n 62 rfl rfl rfl ?_
      refine sc_V 65 rfl rfl rfl rfl rfl (Nat.le_refl _) (Nat.le_refl _) rfl ?_
      refine mm_s_mono _ _ _ _ _ _ ?_ k
      rintro r_ h_ ⟨x1, I1, J1, rfl, rfl, k⟩
      refine sp_istore 67 rfl rfl rfl ?_
      refine sp_aload_n 68 rfl rfl rfl ?_
      refine hq_getR 71 rfl rfl rfl rfl ?_
      refine sp_aload_n 72 rfl rfl rfl ?_
      refine hq_getR 75 rfl rfl rfl rfl ?_
      refine sc_V 78 rfl rfl rfl rfl rfl (Nat.le_refl _) (Nat.le_refl _) rfl ?_
      refine mm_s_mono _ _ _ _ _ _ ?_ k
      rintro r_ h_ ⟨I2, J2, rfl, rfl, k⟩
      refine sp_aload_n 79 rfl rfl rfl ?_
      refine hq_getR 82 rfl rfl rfl rfl ?_
      refine sp_aload_n 83 rfl rfl rfl ?_
      refine sp_iload 85 rfl rfl rfl ?_
      refine sp_iconst 86 rfl rfl ?_
      refine sp_iadd 87 rfl rfl ?_
      refine sc_V 90 rfl rfl rfl rfl rfl (Nat.le_refl _) (Nat.le_refl _) rfl ?_
      refine mm_s_mono _ _ _ _ _ _ ?_ k
      rintro r_ h_ ⟨I3, J3, rfl, rfl, k⟩
      refine sp_aload_n 91 rfl rfl rfl ?_
      refine sp_aload_n 92 rfl rfl rfl ?_
      refine sp_iload_n 93 rfl rfl rfl ?_
      refine sc_V 96 rfl rfl rfl rfl rfl (Nat.le_refl _) (Nat.le_refl _) rfl ?_
      refine mm_s_mono _ _ _ _ _ _ ?_ k
      rintro r_ h_ ⟨x4, I4, J4, rfl, rfl, k⟩
      refine sp_if_eq 99 rfl rfl (fun q => ?_) (fun q => ?_)
      · have k := k.1 q
        refine sp_aload_n 110 rfl rfl rfl ?_
        refine hq_getR 113 rfl rfl rfl rfl ?_
        refine sp_aload_n 114 rfl rfl rfl ?_
        refine sp_iload 116 rfl rfl rfl ?_
        refine sc_V 119 rfl rfl rfl rfl rfl (Nat.le_refl _) (Nat.le_refl _) rfl ?_
        refine mm_s_mono _ _ _ _ _ _ ?_ k
        rintro r_ h_ ⟨I5, J5, rfl, rfl, k⟩
        refine sp_iinc 122 rfl rfl rfl rfl ?_
        refine sp_goto rfl ?_
        refine st_wk (L1 := [some (.ref 20), some (.ref a0), some (.ref a1), some (.int v3), some (.int (v4 + Int32.ofInt 1)), none]) ⟨.inr rfl, .inr rfl, .inr rfl, .inr rfl, .inr rfl, .inl rfl, trivial⟩ ?_
        exact k
      · have k := k.2 q
        refine sp_aload_n 100 rfl rfl rfl ?_
        refine hq_getR 103 rfl rfl rfl rfl ?_
        refine hq_getI 106 rfl rfl rfl ?_
        refine sp_iconst 107 rfl rfl ?_
        refine sp_iadd 108 rfl rfl ?_
        exact st_iret rfl rfl (Nat.le_refl _) (Nat.le_refl _) k
theorem sg_X7_readNot {SL : Nat} {xs : Nat → Int32} {d : Nat} {p s q : Nat} {Q : Option Value → mm_H → Prop} {a0 : Int32} {I : Nat → Nat → Int32} {J : Nat → Nat → Int64} (h_q : isP q) (k : ((a0 < (Int32.ofInt 7) → (mm_s SL xs (d + 90) 105 [.ref 4] (hp p s q I J) (fun r_ h_ => ∃ I1 J1, r_ = none ∧ h_ = hp p s q I1 J1 ∧ (mm_s SL xs (d + 90) 86 [.ref 3, .int (a0 + (Int32.ofInt 1))] (hp p s q I1 J1) (fun r_ h_ => ∃ x2 I2 J2, r_ = some (.int x2) ∧ h_ = hp p s q I2 J2 ∧ (mm_s SL xs (d + 90) 58 [.ref q, .int (Int32.ofInt (-144))] (hp p s q I2 J2) (fun r_ h_ => ∃ I3 J3, r_ = none ∧ h_ = hp p s q I3 J3 ∧ ((x2 = 0 ∨ x2 = 1) ∧ Q (some (.int x2)) (hp p s q I3 J3))))))))) ∧ (¬ (a0 < (Int32.ofInt 7)) → (mm_s SL xs (d + 90) 74 [.ref 3, .int (Int32.ofInt 2)] (hp p s q I J) (fun r_ h_ => ∃ x4 I4 J4, r_ = some (.int x4) ∧ h_ = hp p s q I4 J4 ∧ ((x4 = 0 ∨ x4 = 1) ∧ Q (some (.int x4)) (hp p s q I4 J4))))))) : mm_s SL xs (d + 91) 87 [.ref 3, .int a0] (hp p s q I J) Q := by
  refine e_X7_readNot rfl ?_
  refine sp_iload_n 1 rfl rfl rfl ?_
  refine sp_bipush 3 rfl rfl ?_
  refine sp_I (y := Int32.ofInt 7) rfl ?_
  refine sp_ic_lt 6 rfl rfl (fun q => ?_) (fun q => ?_)
  · have k := k.1 q
    refine sp_aload_n 13 rfl rfl rfl ?_
    refine hq_getR 16 rfl rfl rfl rfl ?_
    refine sc_V 19 rfl rfl rfl rfl rfl (Nat.le_refl _) (Nat.le_refl _) rfl ?_
    refine mm_s_mono _ _ _ _ _ _ ?_ k
    rintro r_ h_ ⟨I1, J1, rfl, rfl, k⟩
    refine sp_aload_n 20 rfl rfl rfl ?_
    refine sp_iload_n 21 rfl rfl rfl ?_
    refine sp_iconst 22 rfl rfl ?_
    refine sp_iadd 23 rfl rfl ?_
    refine sc_V 26 rfl rfl rfl rfl rfl (Nat.le_refl _) (Nat.le_refl _) rfl ?_
    refine mm_s_mono _ _ _ _ _ _ ?_ k
    rintro r_ h_ ⟨x2, I2, J2, rfl, rfl, k⟩
    refine sp_istore_n 27 rfl rfl rfl ?_
    refine sp_aload_n 28 rfl rfl rfl ?_
    refine hq_getR 31 rfl rfl rfl rfl ?_
    refine sp_sipush 34 rfl rfl ?_
    refine sp_I (y := Int32.ofInt (-144)) rfl ?_
    refine sc_V 37 rfl rfl (kP0 h_q) rfl rfl (Nat.le_refl _) (Nat.le_refl _) rfl ?_
    refine mm_s_mono _ _ _ _ _ _ ?_ k
    rintro r_ h_ ⟨I3, J3, rfl, rfl, k⟩
    refine sp_iload_n 38 rfl rfl rfl ?_
    exact st_zret rfl rfl k.1 (Nat.le_refl _) (Nat.le_refl _) k.2
  · have k := k.2 q
    refine sp_aload_n 7 rfl rfl rfl ?_
    refine sp_iconst 8 rfl rfl ?_
    refine sc_V 11 rfl rfl rfl rfl rfl (Nat.le_refl _) (Nat.le_refl _) rfl ?_
    refine mm_s_mono _ _ _ _ _ _ ?_ k
    rintro r_ h_ ⟨x4, I4, J4, rfl, rfl, k⟩
    exact st_zret rfl rfl k.1 (Nat.le_refl _) (Nat.le_refl _) k.2
theorem sg_X7_readUnit {SL : Nat} {xs : Nat → Int32} {d : Nat} {p s q : Nat} {Q : Option Value → mm_H → Prop} {a0 : Int32} {I : Nat → Nat → Int32} {J : Nat → Nat → Int64} (h_q : isP q) (k : (((sx_X7_isUnit (I 4 2)) = Int32.ofInt 0 → (mm_s SL xs (d + 90) 74 [.ref 3, .int (Int32.ofInt 2)] (hp p s q I J) (fun r_ h_ => ∃ x1 I1 J1, r_ = some (.int x1) ∧ h_ = hp p s q I1 J1 ∧ ((x1 = 0 ∨ x1 = 1) ∧ Q (some (.int x1)) (hp p s q I1 J1))))) ∧ (¬ ((sx_X7_isUnit (I 4 2)) = Int32.ofInt 0) → (((Int32.ofInt 40) ≤ (I q 9) → (mm_s SL xs (d + 90) 74 [.ref 3, .int (Int32.ofInt 2)] (hp p s q I J) (fun r_ h_ => ∃ x2 I2 J2, r_ = some (.int x2) ∧ h_ = hp p s q I2 J2 ∧ ((x2 = 0 ∨ x2 = 1) ∧ Q (some (.int x2)) (hp p s q I2 J2))))) ∧ (¬ ((Int32.ofInt 40) ≤ (I q 9)) → (((I 4 2) = (Int32.ofInt 40) → ((a0 < (Int32.ofInt 7) → (((I 4 2) = (Int32.ofInt 40) → (mm_s SL xs (d + 90) 105 [.ref 4] (hp p s q (mm_u I q 9 ((I q 9) + (Int32.ofInt 1))) J) (fun r_ h_ => ∃ I14 J14, r_ = none ∧ h_ = hp p s q I14 J14 ∧ (mm_s SL xs (d + 90) 84 [.ref 3, .int (a0 + (Int32.ofInt 1))] (hp p s q I14 J14) (fun r_ h_ => ∃ x15 I15 J15, r_ = some (.int x15) ∧ h_ = hp p s q I15 J15 ∧ ((x15 = Int32.ofInt 0 → Q (some (.int (Int32.ofInt 0))) (hp p s q I15 J15)) ∧ (¬ (x15 = Int32.ofInt 0) → (mm_s SL xs (d + 90) 75 [.ref 3, .int (Int32.ofInt 41)] (hp p s q I15 J15) (fun r_ h_ => ∃ x16 I16 J16, r_ = some (.int x16) ∧ h_ = hp p s q I16 J16 ∧ ((x16 = Int32.ofInt 0 → Q (some (.int (Int32.ofInt 0))) (hp p s q I16 J16)) ∧ (¬ (x16 = Int32.ofInt 0) → Q (some (.int (Int32.ofInt 1))) (hp p s q I16 J16)))))))))))) ∧ (¬ ((I 4 2) = (Int32.ofInt 40)) → (((I 4 2) = (Int32.ofInt 2) → (mm_s SL xs (d + 90) 58 [.ref q, .int ((mm_u I q 9 ((I q 9) + (Int32.ofInt 1))) 4 4)] (hp p s q (mm_u I q 9 ((I q 9) + (Int32.ofInt 1))) J) (fun r_ h_ => ∃ I12 J12, r_ = none ∧ h_ = hp p s q I12 J12 ∧ (mm_s SL xs (d + 90) 105 [.ref 4] (hp p s q I12 J12) (fun r_ h_ => ∃ I13 J13, r_ = none ∧ h_ = hp p s q I13 J13 ∧ Q (some (.int (Int32.ofInt 1))) (hp p s q I13 J13)))))) ∧ (¬ ((I 4 2) = (Int32.ofInt 2)) → (mm_s SL xs (d + 90) 58 [.ref q, .int (-(I 4 2))] (hp p s q (mm_u I q 9 ((I q 9) + (Int32.ofInt 1))) J) (fun r_ h_ => ∃ I10 J10, r_ = none ∧ h_ = hp p s q I10 J10 ∧ (mm_s SL xs (d + 90) 105 [.ref 4] (hp p s q I10 J10) (fun r_ h_ => ∃ I11 J11, r_ = none ∧ h_ = hp p s q I11 J11 ∧ Q (some (.int (Int32.ofInt 1))) (hp p s q I11 J11)))))))))) ∧ (¬ (a0 < (Int32.ofInt 7)) → (mm_s SL xs (d + 90) 74 [.ref 3, .int (Int32.ofInt 2)] (hp p s q I J) (fun r_ h_ => ∃ x17 I17 J17, r_ = some (.int x17) ∧ h_ = hp p s q I17 J17 ∧ ((x17 = 0 ∨ x17 = 1) ∧ Q (some (.int x17)) (hp p s q I17 J17))))))) ∧ (¬ ((I 4 2) = (Int32.ofInt 40)) → (((I 4 2) = (Int32.ofInt 40) → (mm_s SL xs (d + 90) 105 [.ref 4] (hp p s q (mm_u I q 9 ((I q 9) + (Int32.ofInt 1))) J) (fun r_ h_ => ∃ I7 J7, r_ = none ∧ h_ = hp p s q I7 J7 ∧ (mm_s SL xs (d + 90) 84 [.ref 3, .int (a0 + (Int32.ofInt 1))] (hp p s q I7 J7) (fun r_ h_ => ∃ x8 I8 J8, r_ = some (.int x8) ∧ h_ = hp p s q I8 J8 ∧ ((x8 = Int32.ofInt 0 → Q (some (.int (Int32.ofInt 0))) (hp p s q I8 J8)) ∧ (¬ (x8 = Int32.ofInt 0) → (mm_s SL xs (d + 90) 75 [.ref 3, .int (Int32.ofInt 41)] (hp p s q I8 J8) (fun r_ h_ => ∃ x9 I9 J9, r_ = some (.int x9) ∧ h_ = hp p s q I9 J9 ∧ ((x9 = Int32.ofInt 0 → Q (some (.int (Int32.ofInt 0))) (hp p s q I9 J9)) ∧ (¬ (x9 = Int32.ofInt 0) → Q (some (.int (Int32.ofInt 1))) (hp p s q I9 J9)))))))))))) ∧ (¬ ((I 4 2) = (Int32.ofInt 40)) → (((I 4 2) = (Int32.ofInt 2) → (mm_s SL xs (d + 90) 58 [.ref q, .int ((mm_u I q 9 ((I q 9) + (Int32.ofInt 1))) 4 4)] (hp p s q (mm_u I q 9 ((I q 9) + (Int32.ofInt 1))) J) (fun r_ h_ => ∃ I5 J5, r_ = none ∧ h_ = hp p s q I5 J5 ∧ (mm_s SL xs (d + 90) 105 [.ref 4] (hp p s q I5 J5) (fun r_ h_ => ∃ I6 J6, r_ = none ∧ h_ = hp p s q I6 J6 ∧ Q (some (.int (Int32.ofInt 1))) (hp p s q I6 J6)))))) ∧ (¬ ((I 4 2) = (Int32.ofInt 2)) → (mm_s SL xs (d + 90) 58 [.ref q, .int (-(I 4 2))] (hp p s q (mm_u I q 9 ((I q 9) + (Int32.ofInt 1))) J) (fun r_ h_ => ∃ I3 J3, r_ = none ∧ h_ = hp p s q I3 J3 ∧ (mm_s SL xs (d + 90) 105 [.ref 4] (hp p s q I3 J3) (fun r_ h_ => ∃ I4 J4, r_ = none ∧ h_ = hp p s q I4 J4 ∧ Q (some (.int (Int32.ofInt 1))) (hp p s q I4 J4)))))))))))))))) : mm_s SL xs (d + 91) 90 [.ref 3, .int a0] (hp p s q I J) Q := by
  refine e_X7_readUnit rfl ?_
  refine sp_aload_n 1 rfl rfl rfl ?_
  refine hq_getR 4 rfl rfl rfl rfl ?_
  refine hq_getI 7 rfl rfl rfl ?_
  refine sp_istore_n 8 rfl rfl rfl ?_
  refine sp_iload_n 9 rfl rfl rfl ?_
  refine sc_S 12 rfl rfl rfl rfl (Nat.le_refl _) (Nat.le_refl _) rfl ?_
  refine cx_X7_isUnit ?_
  refine sp_if_eq 15 rfl rfl (fun q => ?_) (fun q => ?_)
  · have k := k.1 q
    refine sp_aload_n 40 rfl rfl rfl ?_
    refine sp_iconst 41 rfl rfl ?_
    refine sc_V 44 rfl rfl rfl rfl rfl (Nat.le_refl _) (Nat.le_refl _) rfl ?_
    refine mm_s_mono _ _ _ _ _ _ ?_ k
    rintro r_ h_ ⟨x1, I1, J1, rfl, rfl, k⟩
    exact st_zret rfl rfl k.1 (Nat.le_refl _) (Nat.le_refl _) k.2
  · have k := k.2 q
    refine sp_aload_n 16 rfl rfl rfl ?_
    refine hq_getR 19 rfl rfl rfl rfl ?_
    refine hq_getI 22 rfl (kP0 h_q) rfl ?_
    refine sp_bipush 24 rfl rfl ?_
    refine sp_I (y := Int32.ofInt 40) rfl ?_
    refine sp_ic_ge 27 rfl rfl (fun q => ?_) (fun q => ?_)
    · have k := k.1 q
      refine sp_aload_n 40 rfl rfl rfl ?_
      refine sp_iconst 41 rfl rfl ?_
      refine sc_V 44 rfl rfl rfl rfl rfl (Nat.le_refl _) (Nat.le_refl _) rfl ?_
      refine mm_s_mono _ _ _ _ _ _ ?_ k
      rintro r_ h_ ⟨x2, I2, J2, rfl, rfl, k⟩
      exact st_zret rfl rfl k.1 (Nat.le_refl _) (Nat.le_refl _) k.2
    · have k := k.2 q
      refine sp_iload_n 28 rfl rfl rfl ?_
      refine sp_bipush 30 rfl rfl ?_
      refine sp_I (y := Int32.ofInt 40) rfl ?_
      refine sp_ic_ne 33 rfl rfl (fun q => ?_) (fun q => ?_)
      · have k := k.2 q
        refine sp_aload_n 46 rfl rfl rfl ?_
        refine hq_getR 49 rfl rfl rfl rfl ?_
        refine sp_dup 50 rfl rfl rfl ?_
        refine hq_getI 53 rfl (kP0 h_q) rfl ?_
        refine sp_iconst 54 rfl rfl ?_
        refine sp_iadd 55 rfl rfl ?_
        refine hq_putI 58 rfl (kP0 h_q) rfl ?_
        refine sp_iload_n 59 rfl rfl rfl ?_
        refine sp_bipush 61 rfl rfl ?_
        refine sp_I (y := Int32.ofInt 40) rfl ?_
        refine sp_ic_ne 64 rfl rfl (fun q => ?_) (fun q => ?_)
        · have k := k.2 q
          refine sp_aload_n 97 rfl rfl rfl ?_
          refine hq_getR 100 rfl rfl rfl rfl ?_
          refine sp_iload_n 101 rfl rfl rfl ?_
          refine sp_iconst 102 rfl rfl ?_
          refine sp_ic_ne 105 rfl rfl (fun q => ?_) (fun q => ?_)
          · have k := k.2 q
            refine sp_iload_n 116 rfl rfl rfl ?_
            refine sp_ineg 117 rfl rfl ?_
            refine sc_V 120 rfl rfl (kP0 h_q) rfl rfl (Nat.le_refl _) (Nat.le_refl _) rfl ?_
            refine mm_s_mono _ _ _ _ _ _ ?_ k
            rintro r_ h_ ⟨I3, J3, rfl, rfl, k⟩
            refine sp_aload_n 121 rfl rfl rfl ?_
            refine hq_getR 124 rfl rfl rfl rfl ?_
            refine sc_V 127 rfl rfl rfl rfl rfl (Nat.le_refl _) (Nat.le_refl _) rfl ?_
            refine mm_s_mono _ _ _ _ _ _ ?_ k
            rintro r_ h_ ⟨I4, J4, rfl, rfl, k⟩
            refine sp_iconst 128 rfl rfl ?_
            exact st_zret rfl rfl (by decide) (Nat.le_refl _) (Nat.le_refl _) k
          · have k := k.1 q
            refine sp_aload_n 106 rfl rfl rfl ?_
            refine hq_getR 109 rfl rfl rfl rfl ?_
            refine hq_getI 112 rfl rfl rfl ?_
            refine sp_goto rfl ?_
            refine sc_V 120 rfl rfl (kP0 h_q) rfl rfl (Nat.le_refl _) (Nat.le_refl _) rfl ?_
            refine mm_s_mono _ _ _ _ _ _ ?_ k
            rintro r_ h_ ⟨I5, J5, rfl, rfl, k⟩
            refine sp_aload_n 121 rfl rfl rfl ?_
            refine hq_getR 124 rfl rfl rfl rfl ?_
            refine sc_V 127 rfl rfl rfl rfl rfl (Nat.le_refl _) (Nat.le_refl _) rfl ?_
            refine mm_s_mono _ _ _ _ _ _ ?_ k
            rintro r_ h_ ⟨I6, J6, rfl, rfl, k⟩
            refine sp_iconst 128 rfl rfl ?_
            exact st_zret rfl rfl (by decide) (Nat.le_refl _) (Nat.le_refl _) k
        · have k := k.1 q
          refine sp_aload_n 65 rfl rfl rfl ?_
          refine hq_getR 68 rfl rfl rfl rfl ?_
          refine sc_V 71 rfl rfl rfl rfl rfl (Nat.le_refl _) (Nat.le_refl _) rfl ?_
          refine mm_s_mono _ _ _ _ _ _ ?_ k
          rintro r_ h_ ⟨I7, J7, rfl, rfl, k⟩
          refine sp_aload_n 72 rfl rfl rfl ?_
          refine sp_iload_n 73 rfl rfl rfl ?_
          refine sp_iconst 74 rfl rfl ?_
          refine sp_iadd 75 rfl rfl ?_
          refine sc_V 78 rfl rfl rfl rfl rfl (Nat.le_refl _) (Nat.le_refl _) rfl ?_
          refine mm_s_mono _ _ _ _ _ _ ?_ k
          rintro r_ h_ ⟨x8, I8, J8, rfl, rfl, k⟩
          refine sp_if_eq 81 rfl rfl (fun q => ?_) (fun q => ?_)
          · have k := k.1 q
            refine sp_iconst 95 rfl rfl ?_
            exact st_zret rfl rfl (by decide) (Nat.le_refl _) (Nat.le_refl _) k
          · have k := k.2 q
            refine sp_aload_n 82 rfl rfl rfl ?_
            refine sp_bipush 84 rfl rfl ?_
            refine sp_I (y := Int32.ofInt 41) rfl ?_
            refine sc_V 87 rfl rfl rfl rfl rfl (Nat.le_refl _) (Nat.le_refl _) rfl ?_
            refine mm_s_mono _ _ _ _ _ _ ?_ k
            rintro r_ h_ ⟨x9, I9, J9, rfl, rfl, k⟩
            refine sp_if_eq 90 rfl rfl (fun q => ?_) (fun q => ?_)
            · have k := k.1 q
              refine sp_iconst 95 rfl rfl ?_
              exact st_zret rfl rfl (by decide) (Nat.le_refl _) (Nat.le_refl _) k
            · have k := k.2 q
              refine sp_iconst 91 rfl rfl ?_
              refine sp_goto rfl ?_
              exact st_zret rfl rfl (by decide) (Nat.le_refl _) (Nat.le_refl _) k
      · have k := k.1 q
        refine sp_iload_n 34 rfl rfl rfl ?_
        refine sp_bipush 36 rfl rfl ?_
        refine sp_I (y := Int32.ofInt 7) rfl ?_
        refine sp_ic_lt 39 rfl rfl (fun q => ?_) (fun q => ?_)
        · have k := k.1 q
          refine sp_aload_n 46 rfl rfl rfl ?_
          refine hq_getR 49 rfl rfl rfl rfl ?_
          refine sp_dup 50 rfl rfl rfl ?_
          refine hq_getI 53 rfl (kP0 h_q) rfl ?_
          refine sp_iconst 54 rfl rfl ?_
          refine sp_iadd 55 rfl rfl ?_
          refine hq_putI 58 rfl (kP0 h_q) rfl ?_
          refine sp_iload_n 59 rfl rfl rfl ?_
          refine sp_bipush 61 rfl rfl ?_
          refine sp_I (y := Int32.ofInt 40) rfl ?_
          refine sp_ic_ne 64 rfl rfl (fun q => ?_) (fun q => ?_)
          · have k := k.2 q
            refine sp_aload_n 97 rfl rfl rfl ?_
            refine hq_getR 100 rfl rfl rfl rfl ?_
            refine sp_iload_n 101 rfl rfl rfl ?_
            refine sp_iconst 102 rfl rfl ?_
            refine sp_ic_ne 105 rfl rfl (fun q => ?_) (fun q => ?_)
            · have k := k.2 q
              refine sp_iload_n 116 rfl rfl rfl ?_
              refine sp_ineg 117 rfl rfl ?_
              refine sc_V 120 rfl rfl (kP0 h_q) rfl rfl (Nat.le_refl _) (Nat.le_refl _) rfl ?_
              refine mm_s_mono _ _ _ _ _ _ ?_ k
              rintro r_ h_ ⟨I10, J10, rfl, rfl, k⟩
              refine sp_aload_n 121 rfl rfl rfl ?_
              refine hq_getR 124 rfl rfl rfl rfl ?_
              refine sc_V 127 rfl rfl rfl rfl rfl (Nat.le_refl _) (Nat.le_refl _) rfl ?_
              refine mm_s_mono _ _ _ _ _ _ ?_ k
              rintro r_ h_ ⟨I11, J11, rfl, rfl, k⟩
              refine sp_iconst 128 rfl rfl ?_
              exact st_zret rfl rfl (by decide) (Nat.le_refl _) (Nat.le_refl _) k
            · have k := k.1 q
              refine sp_aload_n 106 rfl rfl rfl ?_
              refine hq_getR 109 rfl rfl rfl rfl ?_
              refine hq_getI 112 rfl rfl rfl ?_
              refine sp_goto rfl ?_
              refine sc_V 120 rfl rfl (kP0 h_q) rfl rfl (Nat.le_refl _) (Nat.le_refl _) rfl ?_
              refine mm_s_mono _ _ _ _ _ _ ?_ k
              rintro r_ h_ ⟨I12, J12, rfl, rfl, k⟩
              refine sp_aload_n 121 rfl rfl rfl ?_
              refine hq_getR 124 rfl rfl rfl rfl ?_
              refine sc_V 127 rfl rfl rfl rfl rfl (Nat.le_refl _) (Nat.le_refl _) rfl ?_
              refine mm_s_mono _ _ _ _ _ _ ?_ k
              rintro r_ h_ ⟨I13, J13, rfl, rfl, k⟩
              refine sp_iconst 128 rfl rfl ?_
              exact st_zret rfl rfl (by decide) (Nat.le_refl _) (Nat.le_refl _) k
          · have k := k.1 q
            refine sp_aload_n 65 rfl rfl rfl ?_
            refine hq_getR 68 rfl rfl rfl rfl ?_
            refine sc_V 71 rfl rfl rfl rfl rfl (Nat.le_refl _) (Nat.le_refl _) rfl ?_
            refine mm_s_mono _ _ _ _ _ _ ?_ k
            rintro r_ h_ ⟨I14, J14, rfl, rfl, k⟩
            refine sp_aload_n 72 rfl rfl rfl ?_
            refine sp_iload_n 73 rfl rfl rfl ?_
            refine sp_iconst 74 rfl rfl ?_
            refine sp_iadd 75 rfl rfl ?_
            refine sc_V 78 rfl rfl rfl rfl rfl (Nat.le_refl _) (Nat.le_refl _) rfl ?_
            refine mm_s_mono _ _ _ _ _ _ ?_ k
            rintro r_ h_ ⟨x15, I15, J15, rfl, rfl, k⟩
            refine sp_if_eq 81 rfl rfl (fun q => ?_) (fun q => ?_)
            · have k := k.1 q
              refine sp_iconst 95 rfl rfl ?_
              exact st_zret rfl rfl (by decide) (Nat.le_refl _) (Nat.le_refl _) k
            · have k := k.2 q
              refine sp_aload_n 82 rfl rfl rfl ?_
              refine sp_bipush 84 rfl rfl ?_
              refine sp_I (y := Int32.ofInt 41) rfl ?_
              refine sc_V 87 rfl rfl rfl rfl rfl (Nat.le_refl _) (Nat.le_refl _) rfl ?_
              refine mm_s_mono _ _ _ _ _ _ ?_ k
              rintro r_ h_ ⟨x16, I16, J16, rfl, rfl, k⟩
              refine sp_if_eq 90 rfl rfl (fun q => ?_) (fun q => ?_)
              · have k := k.1 q
                refine sp_iconst 95 rfl rfl ?_
                exact st_zret rfl rfl (by decide) (Nat.le_refl _) (Nat.le_refl _) k
              · have k := k.2 q
                refine sp_iconst 91 rfl rfl ?_
                refine sp_goto rfl ?_
                exact st_zret rfl rfl (by decide) (Nat.le_refl _) (Nat.le_refl _) k
        · have k := k.2 q
          refine sp_aload_n 40 rfl rfl rfl ?_
          refine sp_iconst 41 rfl rfl ?_
          refine sc_V 44 rfl rfl rfl rfl rfl (Nat.le_refl _) (Nat.le_refl _) rfl ?_
          refine mm_s_mono _ _ _ _ _ _ ?_ k
          rintro r_ h_ ⟨x17, I17, J17, rfl, rfl, k⟩
          exact st_zret rfl rfl k.1 (Nat.le_refl _) (Nat.le_refl _) k.2
def w_X7_readTerm_8 (SL : Nat) (xs : Nat → Int32) (d : Nat) (p s q : Nat) (Q : Option Value → mm_H → Prop) (v1 : Int32) (v2 : Int32) (v3 : Int32) (I : Nat → Nat → Int32) (J : Nat → Nat → Int64) : Prop := mm_w SL xs (mm_s SL xs (d + 90)) mm_am kX7_readTerm 0 0 (some .boolean) Q 8 [some (.ref 3), some (.int v1), some (.int v2), some (.int v3), none] [] (hp p s q I J) 0 0
theorem sg_X7_readTerm {SL : Nat} {xs : Nat → Int32} {d : Nat} {p s q : Nat} {Q : Option Value → mm_H → Prop} {a0 : Int32} {I : Nat → Nat → Int32} {J : Nat → Nat → Int64}  (k : (mm_s SL xs (d + 90) 90 [.ref 3, .int a0] (hp p s q I J) (fun r_ h_ => ∃ x1 I1 J1, r_ = some (.int x1) ∧ h_ = hp p s q I1 J1 ∧ w_X7_readTerm_8 SL xs d p s q Q a0 x1 (Int32.ofInt 0) I1 J1))) : mm_s SL xs (d + 91) 89 [.ref 3, .int a0] (hp p s q I J) Q := by
  refine e_X7_readTerm rfl ?_
  refine sp_aload_n 1 rfl rfl rfl ?_
  refine sp_iload_n 2 rfl rfl rfl ?_
  refine sc_V 5 rfl rfl rfl rfl rfl (Nat.le_refl _) (Nat.le_refl _) rfl ?_
  refine mm_s_mono _ _ _ _ _ _ ?_ k
  rintro r_ h_ ⟨x1, I1, J1, rfl, rfl, k⟩
  refine sp_istore_n 6 rfl rfl rfl ?_
  refine sp_iconst 7 rfl rfl ?_
  refine sp_istore_n 8 rfl rfl rfl ?_
  exact k
theorem sg_X7_readTerm_8 {SL : Nat} {xs : Nat → Int32} {d : Nat} {p s q : Nat} {Q : Option Value → mm_H → Prop} {v1 : Int32} {v2 : Int32} {v3 : Int32} {I : Nat → Nat → Int32} {J : Nat → Nat → Int64} (h_q : isP q) (k : (((Int32.ofInt 40) ≤ v3 → ((v2 = 0 ∨ v2 = 1) ∧ Q (some (.int v2)) (hp p s q I J))) ∧ (¬ ((Int32.ofInt 40) ≤ v3) → ((v2 = Int32.ofInt 0 → ((v2 = 0 ∨ v2 = 1) ∧ Q (some (.int v2)) (hp p s q I J))) ∧ (¬ (v2 = Int32.ofInt 0) → (((I 4 2) = (Int32.ofInt 42) → (mm_s SL xs (d + 90) 105 [.ref 4] (hp p s q I J) (fun r_ h_ => ∃ I1 J1, r_ = none ∧ h_ = hp p s q I1 J1 ∧ (mm_s SL xs (d + 90) 90 [.ref 3, .int v1] (hp p s q I1 J1) (fun r_ h_ => ∃ x2 I2 J2, r_ = some (.int x2) ∧ h_ = hp p s q I2 J2 ∧ (mm_s SL xs (d + 90) 58 [.ref q, .int (-(I 4 2))] (hp p s q I2 J2) (fun r_ h_ => ∃ I3 J3, r_ = none ∧ h_ = hp p s q I3 J3 ∧ w_X7_readTerm_8 SL xs d p s q Q v1 x2 (v3 + Int32.ofInt 1) I3 J3))))))) ∧ (¬ ((I 4 2) = (Int32.ofInt 42)) → (((I 4 2) = (Int32.ofInt 47) → (mm_s SL xs (d + 90) 105 [.ref 4] (hp p s q I J) (fun r_ h_ => ∃ I4 J4, r_ = none ∧ h_ = hp p s q I4 J4 ∧ (mm_s SL xs (d + 90) 90 [.ref 3, .int v1] (hp p s q I4 J4) (fun r_ h_ => ∃ x5 I5 J5, r_ = some (.int x5) ∧ h_ = hp p s q I5 J5 ∧ (mm_s SL xs (d + 90) 58 [.ref q, .int (-(I 4 2))] (hp p s q I5 J5) (fun r_ h_ => ∃ I6 J6, r_ = none ∧ h_ = hp p s q I6 J6 ∧ w_X7_readTerm_8 SL xs d p s q Q v1 x5 (v3 + Int32.ofInt 1) I6 J6))))))) ∧ (¬ ((I 4 2) = (Int32.ofInt 47)) → ((v2 = 0 ∨ v2 = 1) ∧ Q (some (.int v2)) (hp p s q I J))))))))))) : w_X7_readTerm_8 SL xs d p s q Q v1 v2 v3 I J := by
  unfold w_X7_readTerm_8
  refine sp_iload_n 9 rfl rfl rfl ?_
  refine sp_bipush 11 rfl rfl ?_
  refine sp_I (y := Int32.ofInt 40) rfl ?_
  refine sp_ic_ge 14 rfl rfl (fun q => ?_) (fun q => ?_)
  · have k := k.1 q
    refine sp_iload_n 81 rfl rfl rfl ?_
    exact st_zret rfl rfl k.1 (Nat.le_refl _) (Nat.le_refl _) k.2
  · have k := k.2 q
    refine sp_iload_n 15 rfl rfl rfl ?_
    refine sp_if_eq 18 rfl rfl (fun q => ?_) (fun q => ?_)
    · have k := k.1 q
      refine sp_iload_n 81 rfl rfl rfl ?_
      exact st_zret rfl rfl k.1 (Nat.le_refl _) (Nat.le_refl _) k.2
    · have k := k.2 q
      refine sp_aload_n 19 rfl rfl rfl ?_
      refine hq_getR 22 rfl rfl rfl rfl ?_
      refine hq_getI 25 rfl rfl rfl ?_
      refine sp_bipush 27 rfl rfl ?_
      refine sp_I (y := Int32.ofInt 42) rfl ?_
      refine sp_ic_eq 30 rfl rfl (fun q => ?_) (fun q => ?_)
      · have k := k.1 q
        refine sp_aload_n 43 rfl rfl rfl ?_
        refine hq_getR 46 rfl rfl rfl rfl ?_
        refine hq_getI 49 rfl rfl rfl ?_
        refine sp_istore 51 rfl rfl rfl ?_
        refine sp_aload_n 52 rfl rfl rfl ?_
        refine hq_getR 55 rfl rfl rfl rfl ?_
        refine sc_V 58 rfl rfl rfl rfl rfl (Nat.le_refl _) (Nat.le_refl _) rfl ?_
        refine mm_s_mono _ _ _ _ _ _ ?_ k
        rintro r_ h_ ⟨I1, J1, rfl, rfl, k⟩
        refine sp_aload_n 59 rfl rfl rfl ?_
        refine sp_iload_n 60 rfl rfl rfl ?_
        refine sc_V 63 rfl rfl rfl rfl rfl (Nat.le_refl _) (Nat.le_refl _) rfl ?_
        refine mm_s_mono _ _ _ _ _ _ ?_ k
        rintro r_ h_ ⟨x2, I2, J2, rfl, rfl, k⟩
        refine sp_istore_n 64 rfl rfl rfl ?_
        refine sp_aload_n 65 rfl rfl rfl ?_
        refine hq_getR 68 rfl rfl rfl rfl ?_
        refine sp_iload 70 rfl rfl rfl ?_
        refine sp_ineg 71 rfl rfl ?_
        refine sc_V 74 rfl rfl (kP0 h_q) rfl rfl (Nat.le_refl _) (Nat.le_refl _) rfl ?_
        refine mm_s_mono _ _ _ _ _ _ ?_ k
        rintro r_ h_ ⟨I3, J3, rfl, rfl, k⟩
        refine sp_iinc 77 rfl rfl rfl rfl ?_
        refine sp_goto rfl ?_
        refine st_wk (L1 := [some (.ref 3), some (.int v1), some (.int x2), some (.int (v3 + Int32.ofInt 1)), none]) ⟨.inr rfl, .inr rfl, .inr rfl, .inr rfl, .inl rfl, trivial⟩ ?_
        exact k
      · have k := k.2 q
        refine sp_aload_n 31 rfl rfl rfl ?_
        refine hq_getR 34 rfl rfl rfl rfl ?_
        refine hq_getI 37 rfl rfl rfl ?_
        refine sp_bipush 39 rfl rfl ?_
        refine sp_I (y := Int32.ofInt 47) rfl ?_
        refine sp_ic_ne 42 rfl rfl (fun q => ?_) (fun q => ?_)
        · have k := k.2 q
          refine sp_iload_n 81 rfl rfl rfl ?_
          exact st_zret rfl rfl k.1 (Nat.le_refl _) (Nat.le_refl _) k.2
        · have k := k.1 q
          refine sp_aload_n 43 rfl rfl rfl ?_
          refine hq_getR 46 rfl rfl rfl rfl ?_
          refine hq_getI 49 rfl rfl rfl ?_
          refine sp_istore 51 rfl rfl rfl ?_
          refine sp_aload_n 52 rfl rfl rfl ?_
          refine hq_getR 55 rfl rfl rfl rfl ?_
          refine sc_V 58 rfl rfl rfl rfl rfl (Nat.le_refl _) (Nat.le_refl _) rfl ?_
          refine mm_s_mono _ _ _ _ _ _ ?_ k
          rintro r_ h_ ⟨I4, J4, rfl, rfl, k⟩
          refine sp_aload_n 59 rfl rfl rfl ?_
          refine sp_iload_n 60 rfl rfl rfl ?_
          refine sc_V 63 rfl rfl rfl rfl rfl (Nat.le_refl _) (Nat.le_refl _) rfl ?_
          refine mm_s_mono _ _ _ _ _ _ ?_ k
          rintro r_ h_ ⟨x5, I5, J5, rfl, rfl, k⟩
          refine sp_istore_n 64 rfl rfl rfl ?_
          refine sp_aload_n 65 rfl rfl rfl ?_
          refine hq_getR 68 rfl rfl rfl rfl ?_
          refine sp_iload 70 rfl rfl rfl ?_
          refine sp_ineg 71 rfl rfl ?_
          refine sc_V 74 rfl rfl (kP0 h_q) rfl rfl (Nat.le_refl _) (Nat.le_refl _) rfl ?_
          refine mm_s_mono _ _ _ _ _ _ ?_ k
          rintro r_ h_ ⟨I6, J6, rfl, rfl, k⟩
          refine sp_iinc 77 rfl rfl rfl rfl ?_
          refine sp_goto rfl ?_
          refine st_wk (L1 := [some (.ref 3), some (.int v1), some (.int x5), some (.int (v3 + Int32.ofInt 1)), none]) ⟨.inr rfl, .inr rfl, .inr rfl, .inr rfl, .inl rfl, trivial⟩ ?_
          exact k
def w_X7_readSum_8 (SL : Nat) (xs : Nat → Int32) (d : Nat) (p s q : Nat) (Q : Option Value → mm_H → Prop) (v1 : Int32) (v2 : Int32) (v3 : Int32) (I : Nat → Nat → Int32) (J : Nat → Nat → Int64) : Prop := mm_w SL xs (mm_s SL xs (d + 90)) mm_am kX7_readSum 0 0 (some .boolean) Q 8 [some (.ref 3), some (.int v1), some (.int v2), some (.int v3), none] [] (hp p s q I J) 0 0
theorem sg_X7_readSum {SL : Nat} {xs : Nat → Int32} {d : Nat} {p s q : Nat} {Q : Option Value → mm_H → Prop} {a0 : Int32} {I : Nat → Nat → Int32} {J : Nat → Nat → Int64}  (k : (mm_s SL xs (d + 90) 89 [.ref 3, .int a0] (hp p s q I J) (fun r_ h_ => ∃ x1 I1 J1, r_ = some (.int x1) ∧ h_ = hp p s q I1 J1 ∧ w_X7_readSum_8 SL xs d p s q Q a0 x1 (Int32.ofInt 0) I1 J1))) : mm_s SL xs (d + 91) 88 [.ref 3, .int a0] (hp p s q I J) Q := by
  refine e_X7_readSum rfl ?_
  refine sp_aload_n 1 rfl rfl rfl ?_
  refine sp_iload_n 2 rfl rfl rfl ?_
  refine sc_V 5 rfl rfl rfl rfl rfl (Nat.le_refl _) (Nat.le_refl _) rfl ?_
  refine mm_s_mono _ _ _ _ _ _ ?_ k
  rintro r_ h_ ⟨x1, I1, J1, rfl, rfl, k⟩
  refine sp_istore_n 6 rfl rfl rfl ?_
  refine sp_iconst 7 rfl rfl ?_
  refine sp_istore_n 8 rfl rfl rfl ?_
  exact k
theorem sg_X7_readSum_8 {SL : Nat} {xs : Nat → Int32} {d : Nat} {p s q : Nat} {Q : Option Value → mm_H → Prop} {v1 : Int32} {v2 : Int32} {v3 : Int32} {I : Nat → Nat → Int32} {J : Nat → Nat → Int64} (h_q : isP q) (k : (((Int32.ofInt 40) ≤ v3 → ((v2 = 0 ∨ v2 = 1) ∧ Q (some (.int v2)) (hp p s q I J))) ∧ (¬ ((Int32.ofInt 40) ≤ v3) → ((v2 = Int32.ofInt 0 → ((v2 = 0 ∨ v2 = 1) ∧ Q (some (.int v2)) (hp p s q I J))) ∧ (¬ (v2 = Int32.ofInt 0) → (((I 4 2) = (Int32.ofInt 43) → (mm_s SL xs (d + 90) 105 [.ref 4] (hp p s q I J) (fun r_ h_ => ∃ I1 J1, r_ = none ∧ h_ = hp p s q I1 J1 ∧ (mm_s SL xs (d + 90) 89 [.ref 3, .int v1] (hp p s q I1 J1) (fun r_ h_ => ∃ x2 I2 J2, r_ = some (.int x2) ∧ h_ = hp p s q I2 J2 ∧ (mm_s SL xs (d + 90) 58 [.ref q, .int (-(I 4 2))] (hp p s q I2 J2) (fun r_ h_ => ∃ I3 J3, r_ = none ∧ h_ = hp p s q I3 J3 ∧ w_X7_readSum_8 SL xs d p s q Q v1 x2 (v3 + Int32.ofInt 1) I3 J3))))))) ∧ (¬ ((I 4 2) = (Int32.ofInt 43)) → (((I 4 2) = (Int32.ofInt 45) → (mm_s SL xs (d + 90) 105 [.ref 4] (hp p s q I J) (fun r_ h_ => ∃ I4 J4, r_ = none ∧ h_ = hp p s q I4 J4 ∧ (mm_s SL xs (d + 90) 89 [.ref 3, .int v1] (hp p s q I4 J4) (fun r_ h_ => ∃ x5 I5 J5, r_ = some (.int x5) ∧ h_ = hp p s q I5 J5 ∧ (mm_s SL xs (d + 90) 58 [.ref q, .int (-(I 4 2))] (hp p s q I5 J5) (fun r_ h_ => ∃ I6 J6, r_ = none ∧ h_ = hp p s q I6 J6 ∧ w_X7_readSum_8 SL xs d p s q Q v1 x5 (v3 + Int32.ofInt 1) I6 J6))))))) ∧ (¬ ((I 4 2) = (Int32.ofInt 45)) → ((v2 = 0 ∨ v2 = 1) ∧ Q (some (.int v2)) (hp p s q I J))))))))))) : w_X7_readSum_8 SL xs d p s q Q v1 v2 v3 I J := by
  unfold w_X7_readSum_8
  refine sp_iload_n 9 rfl rfl rfl ?_
  refine sp_bipush 11 rfl rfl ?_
  refine sp_I (y := Int32.ofInt 40) rfl ?_
  refine sp_ic_ge 14 rfl rfl (fun q => ?_) (fun q => ?_)
  · have k := k.1 q
    refine sp_iload_n 81 rfl rfl rfl ?_
    exact st_zret rfl rfl k.1 (Nat.le_refl _) (Nat.le_refl _) k.2
  · have k := k.2 q
    refine sp_iload_n 15 rfl rfl rfl ?_
    refine sp_if_eq 18 rfl rfl (fun q => ?_) (fun q => ?_)
    · have k := k.1 q
      refine sp_iload_n 81 rfl rfl rfl ?_
      exact st_zret rfl rfl k.1 (Nat.le_refl _) (Nat.le_refl _) k.2
    · have k := k.2 q
      refine sp_aload_n 19 rfl rfl rfl ?_
      refine hq_getR 22 rfl rfl rfl rfl ?_
      refine hq_getI 25 rfl rfl rfl ?_
      refine sp_bipush 27 rfl rfl ?_
      refine sp_I (y := Int32.ofInt 43) rfl ?_
      refine sp_ic_eq 30 rfl rfl (fun q => ?_) (fun q => ?_)
      · have k := k.1 q
        refine sp_aload_n 43 rfl rfl rfl ?_
        refine hq_getR 46 rfl rfl rfl rfl ?_
        refine hq_getI 49 rfl rfl rfl ?_
        refine sp_istore 51 rfl rfl rfl ?_
        refine sp_aload_n 52 rfl rfl rfl ?_
        refine hq_getR 55 rfl rfl rfl rfl ?_
        refine sc_V 58 rfl rfl rfl rfl rfl (Nat.le_refl _) (Nat.le_refl _) rfl ?_
        refine mm_s_mono _ _ _ _ _ _ ?_ k
        rintro r_ h_ ⟨I1, J1, rfl, rfl, k⟩
        refine sp_aload_n 59 rfl rfl rfl ?_
        refine sp_iload_n 60 rfl rfl rfl ?_
        refine sc_V 63 rfl rfl rfl rfl rfl (Nat.le_refl _) (Nat.le_refl _) rfl ?_
        refine mm_s_mono _ _ _ _ _ _ ?_ k
        rintro r_ h_ ⟨x2, I2, J2, rfl, rfl, k⟩
        refine sp_istore_n 64 rfl rfl rfl ?_
        refine sp_aload_n 65 rfl rfl rfl ?_
        refine hq_getR 68 rfl rfl rfl rfl ?_
        refine sp_iload 70 rfl rfl rfl ?_
        refine sp_ineg 71 rfl rfl ?_
        refine sc_V 74 rfl rfl (kP0 h_q) rfl rfl (Nat.le_refl _) (Nat.le_refl _) rfl ?_
        refine mm_s_mono _ _ _ _ _ _ ?_ k
        rintro r_ h_ ⟨I3, J3, rfl, rfl, k⟩
        refine sp_iinc 77 rfl rfl rfl rfl ?_
        refine sp_goto rfl ?_
        refine st_wk (L1 := [some (.ref 3), some (.int v1), some (.int x2), some (.int (v3 + Int32.ofInt 1)), none]) ⟨.inr rfl, .inr rfl, .inr rfl, .inr rfl, .inl rfl, trivial⟩ ?_
        exact k
      · have k := k.2 q
        refine sp_aload_n 31 rfl rfl rfl ?_
        refine hq_getR 34 rfl rfl rfl rfl ?_
        refine hq_getI 37 rfl rfl rfl ?_
        refine sp_bipush 39 rfl rfl ?_
        refine sp_I (y := Int32.ofInt 45) rfl ?_
        refine sp_ic_ne 42 rfl rfl (fun q => ?_) (fun q => ?_)
        · have k := k.2 q
          refine sp_iload_n 81 rfl rfl rfl ?_
          exact st_zret rfl rfl k.1 (Nat.le_refl _) (Nat.le_refl _) k.2
        · have k := k.1 q
          refine sp_aload_n 43 rfl rfl rfl ?_
          refine hq_getR 46 rfl rfl rfl rfl ?_
          refine hq_getI 49 rfl rfl rfl ?_
          refine sp_istore 51 rfl rfl rfl ?_
          refine sp_aload_n 52 rfl rfl rfl ?_
          refine hq_getR 55 rfl rfl rfl rfl ?_
          refine sc_V 58 rfl rfl rfl rfl rfl (Nat.le_refl _) (Nat.le_refl _) rfl ?_
          refine mm_s_mono _ _ _ _ _ _ ?_ k
          rintro r_ h_ ⟨I4, J4, rfl, rfl, k⟩
          refine sp_aload_n 59 rfl rfl rfl ?_
          refine sp_iload_n 60 rfl rfl rfl ?_
          refine sc_V 63 rfl rfl rfl rfl rfl (Nat.le_refl _) (Nat.le_refl _) rfl ?_
          refine mm_s_mono _ _ _ _ _ _ ?_ k
          rintro r_ h_ ⟨x5, I5, J5, rfl, rfl, k⟩
          refine sp_istore_n 64 rfl rfl rfl ?_
          refine sp_aload_n 65 rfl rfl rfl ?_
          refine hq_getR 68 rfl rfl rfl rfl ?_
          refine sp_iload 70 rfl rfl rfl ?_
          refine sp_ineg 71 rfl rfl ?_
          refine sc_V 74 rfl rfl (kP0 h_q) rfl rfl (Nat.le_refl _) (Nat.le_refl _) rfl ?_
          refine mm_s_mono _ _ _ _ _ _ ?_ k
          rintro r_ h_ ⟨I6, J6, rfl, rfl, k⟩
          refine sp_iinc 77 rfl rfl rfl rfl ?_
          refine sp_goto rfl ?_
          refine st_wk (L1 := [some (.ref 3), some (.int v1), some (.int x5), some (.int (v3 + Int32.ofInt 1)), none]) ⟨.inr rfl, .inr rfl, .inr rfl, .inr rfl, .inl rfl, trivial⟩ ?_
          exact k
theorem sg_X7_readOne {SL : Nat} {xs : Nat → Int32} {d : Nat} {p s q : Nat} {Q : Option Value → mm_H → Prop} {a0 : Int32} {I : Nat → Nat → Int32} {J : Nat → Nat → Int64} (h_q : isP q) (k : (((I 4 2) = (Int32.ofInt 144) → (mm_s SL xs (d + 90) 87 [.ref 3, .int a0] (hp p s q I J) (fun r_ h_ => ∃ x11 I11 J11, r_ = some (.int x11) ∧ h_ = hp p s q I11 J11 ∧ ((x11 = 0 ∨ x11 = 1) ∧ Q (some (.int x11)) (hp p s q I11 J11))))) ∧ (¬ ((I 4 2) = (Int32.ofInt 144)) → (mm_s SL xs (d + 90) 88 [.ref 3, .int a0] (hp p s q I J) (fun r_ h_ => ∃ x1 I1 J1, r_ = some (.int x1) ∧ h_ = hp p s q I1 J1 ∧ ((x1 = Int32.ofInt 0 → Q (some (.int (Int32.ofInt 0))) (hp p s q I1 J1)) ∧ (¬ (x1 = Int32.ofInt 0) → (((I1 4 2) = (Int32.ofInt 60) → (mm_s SL xs (d + 90) 105 [.ref 4] (hp p s q I1 J1) (fun r_ h_ => ∃ I2 J2, r_ = none ∧ h_ = hp p s q I2 J2 ∧ (mm_s SL xs (d + 90) 88 [.ref 3, .int a0] (hp p s q I2 J2) (fun r_ h_ => ∃ x3 I3 J3, r_ = some (.int x3) ∧ h_ = hp p s q I3 J3 ∧ (mm_s SL xs (d + 90) 58 [.ref q, .int (-(I1 4 2))] (hp p s q I3 J3) (fun r_ h_ => ∃ I4 J4, r_ = none ∧ h_ = hp p s q I4 J4 ∧ ((x3 = 0 ∨ x3 = 1) ∧ Q (some (.int x3)) (hp p s q I4 J4))))))))) ∧ (¬ ((I1 4 2) = (Int32.ofInt 60)) → (((I1 4 2) = (Int32.ofInt 62) → (mm_s SL xs (d + 90) 105 [.ref 4] (hp p s q I1 J1) (fun r_ h_ => ∃ I5 J5, r_ = none ∧ h_ = hp p s q I5 J5 ∧ (mm_s SL xs (d + 90) 88 [.ref 3, .int a0] (hp p s q I5 J5) (fun r_ h_ => ∃ x6 I6 J6, r_ = some (.int x6) ∧ h_ = hp p s q I6 J6 ∧ (mm_s SL xs (d + 90) 58 [.ref q, .int (-(I1 4 2))] (hp p s q I6 J6) (fun r_ h_ => ∃ I7 J7, r_ = none ∧ h_ = hp p s q I7 J7 ∧ ((x6 = 0 ∨ x6 = 1) ∧ Q (some (.int x6)) (hp p s q I7 J7))))))))) ∧ (¬ ((I1 4 2) = (Int32.ofInt 62)) → (((I1 4 2) = (Int32.ofInt 61) → (mm_s SL xs (d + 90) 105 [.ref 4] (hp p s q I1 J1) (fun r_ h_ => ∃ I8 J8, r_ = none ∧ h_ = hp p s q I8 J8 ∧ (mm_s SL xs (d + 90) 88 [.ref 3, .int a0] (hp p s q I8 J8) (fun r_ h_ => ∃ x9 I9 J9, r_ = some (.int x9) ∧ h_ = hp p s q I9 J9 ∧ (mm_s SL xs (d + 90) 58 [.ref q, .int (-(I1 4 2))] (hp p s q I9 J9) (fun r_ h_ => ∃ I10 J10, r_ = none ∧ h_ = hp p s q I10 J10 ∧ ((x9 = 0 ∨ x9 = 1) ∧ Q (some (.int x9)) (hp p s q I10 J10))))))))) ∧ (¬ ((I1 4 2) = (Int32.ofInt 61)) → Q (some (.int (Int32.ofInt 1))) (hp p s q I1 J1)))))))))))))) : mm_s SL xs (d + 91) 86 [.ref 3, .int a0] (hp p s q I J) Q := by
  refine e_X7_readOne rfl ?_
  refine sp_aload_n 1 rfl rfl rfl ?_
  refine hq_getR 4 rfl rfl rfl rfl ?_
  refine hq_getI 7 rfl rfl rfl ?_
  refine sp_sipush 10 rfl rfl ?_
  refine sp_I (y := Int32.ofInt 144) rfl ?_
  refine sp_ic_ne 13 rfl rfl (fun q => ?_) (fun q => ?_)
  · have k := k.2 q
    refine sp_aload_n 20 rfl rfl rfl ?_
    refine sp_iload_n 21 rfl rfl rfl ?_
    refine sc_V 24 rfl rfl rfl rfl rfl (Nat.le_refl _) (Nat.le_refl _) rfl ?_
    refine mm_s_mono _ _ _ _ _ _ ?_ k
    rintro r_ h_ ⟨x1, I1, J1, rfl, rfl, k⟩
    refine sp_if_ne 27 rfl rfl (fun q => ?_) (fun q => ?_)
    · have k := k.2 q
      refine sp_aload_n 30 rfl rfl rfl ?_
      refine hq_getR 33 rfl rfl rfl rfl ?_
      refine hq_getI 36 rfl rfl rfl ?_
      refine sp_istore_n 37 rfl rfl rfl ?_
      refine sp_iload_n 38 rfl rfl rfl ?_
      refine sp_bipush 40 rfl rfl ?_
      refine sp_I (y := Int32.ofInt 60) rfl ?_
      refine sp_ic_eq 43 rfl rfl (fun q => ?_) (fun q => ?_)
      · have k := k.1 q
        refine sp_aload_n 58 rfl rfl rfl ?_
        refine hq_getR 61 rfl rfl rfl rfl ?_
        refine sc_V 64 rfl rfl rfl rfl rfl (Nat.le_refl _) (Nat.le_refl _) rfl ?_
        refine mm_s_mono _ _ _ _ _ _ ?_ k
        rintro r_ h_ ⟨I2, J2, rfl, rfl, k⟩
        refine sp_aload_n 65 rfl rfl rfl ?_
        refine sp_iload_n 66 rfl rfl rfl ?_
        refine sc_V 69 rfl rfl rfl rfl rfl (Nat.le_refl _) (Nat.le_refl _) rfl ?_
        refine mm_s_mono _ _ _ _ _ _ ?_ k
        rintro r_ h_ ⟨x3, I3, J3, rfl, rfl, k⟩
        refine sp_istore_n 70 rfl rfl rfl ?_
        refine sp_aload_n 71 rfl rfl rfl ?_
        refine hq_getR 74 rfl rfl rfl rfl ?_
        refine sp_iload_n 75 rfl rfl rfl ?_
        refine sp_ineg 76 rfl rfl ?_
        refine sc_V 79 rfl rfl (kP0 h_q) rfl rfl (Nat.le_refl _) (Nat.le_refl _) rfl ?_
        refine mm_s_mono _ _ _ _ _ _ ?_ k
        rintro r_ h_ ⟨I4, J4, rfl, rfl, k⟩
        refine sp_iload_n 80 rfl rfl rfl ?_
        exact st_zret rfl rfl k.1 (Nat.le_refl _) (Nat.le_refl _) k.2
      · have k := k.2 q
        refine sp_iload_n 44 rfl rfl rfl ?_
        refine sp_bipush 46 rfl rfl ?_
        refine sp_I (y := Int32.ofInt 62) rfl ?_
        refine sp_ic_eq 49 rfl rfl (fun q => ?_) (fun q => ?_)
        · have k := k.1 q
          refine sp_aload_n 58 rfl rfl rfl ?_
          refine hq_getR 61 rfl rfl rfl rfl ?_
          refine sc_V 64 rfl rfl rfl rfl rfl (Nat.le_refl _) (Nat.le_refl _) rfl ?_
          refine mm_s_mono _ _ _ _ _ _ ?_ k
          rintro r_ h_ ⟨I5, J5, rfl, rfl, k⟩
          refine sp_aload_n 65 rfl rfl rfl ?_
          refine sp_iload_n 66 rfl rfl rfl ?_
          refine sc_V 69 rfl rfl rfl rfl rfl (Nat.le_refl _) (Nat.le_refl _) rfl ?_
          refine mm_s_mono _ _ _ _ _ _ ?_ k
          rintro r_ h_ ⟨x6, I6, J6, rfl, rfl, k⟩
          refine sp_istore_n 70 rfl rfl rfl ?_
          refine sp_aload_n 71 rfl rfl rfl ?_
          refine hq_getR 74 rfl rfl rfl rfl ?_
          refine sp_iload_n 75 rfl rfl rfl ?_
          refine sp_ineg 76 rfl rfl ?_
          refine sc_V 79 rfl rfl (kP0 h_q) rfl rfl (Nat.le_refl _) (Nat.le_refl _) rfl ?_
          refine mm_s_mono _ _ _ _ _ _ ?_ k
          rintro r_ h_ ⟨I7, J7, rfl, rfl, k⟩
          refine sp_iload_n 80 rfl rfl rfl ?_
          exact st_zret rfl rfl k.1 (Nat.le_refl _) (Nat.le_refl _) k.2
        · have k := k.2 q
          refine sp_iload_n 50 rfl rfl rfl ?_
          refine sp_bipush 52 rfl rfl ?_
          refine sp_I (y := Int32.ofInt 61) rfl ?_
          refine sp_ic_eq 55 rfl rfl (fun q => ?_) (fun q => ?_)
          · have k := k.1 q
            refine sp_aload_n 58 rfl rfl rfl ?_
            refine hq_getR 61 rfl rfl rfl rfl ?_
            refine sc_V 64 rfl rfl rfl rfl rfl (Nat.le_refl _) (Nat.le_refl _) rfl ?_
            refine mm_s_mono _ _ _ _ _ _ ?_ k
            rintro r_ h_ ⟨I8, J8, rfl, rfl, k⟩
            refine sp_aload_n 65 rfl rfl rfl ?_
            refine sp_iload_n 66 rfl rfl rfl ?_
            refine sc_V 69 rfl rfl rfl rfl rfl (Nat.le_refl _) (Nat.le_refl _) rfl ?_
            refine mm_s_mono _ _ _ _ _ _ ?_ k
            rintro r_ h_ ⟨x9, I9, J9, rfl, rfl, k⟩
            refine sp_istore_n 70 rfl rfl rfl ?_
            refine sp_aload_n 71 rfl rfl rfl ?_
            refine hq_getR 74 rfl rfl rfl rfl ?_
            refine sp_iload_n 75 rfl rfl rfl ?_
            refine sp_ineg 76 rfl rfl ?_
            refine sc_V 79 rfl rfl (kP0 h_q) rfl rfl (Nat.le_refl _) (Nat.le_refl _) rfl ?_
            refine mm_s_mono _ _ _ _ _ _ ?_ k
            rintro r_ h_ ⟨I10, J10, rfl, rfl, k⟩
            refine sp_iload_n 80 rfl rfl rfl ?_
            exact st_zret rfl rfl k.1 (Nat.le_refl _) (Nat.le_refl _) k.2
          · have k := k.2 q
            refine sp_iconst 56 rfl rfl ?_
            exact st_zret rfl rfl (by decide) (Nat.le_refl _) (Nat.le_refl _) k
    · have k := k.1 q
      refine sp_iconst 28 rfl rfl ?_
      exact st_zret rfl rfl (by decide) (Nat.le_refl _) (Nat.le_refl _) k
  · have k := k.1 q
    refine sp_aload_n 14 rfl rfl rfl ?_
    refine sp_iload_n 15 rfl rfl rfl ?_
    refine sc_V 18 rfl rfl rfl rfl rfl (Nat.le_refl _) (Nat.le_refl _) rfl ?_
    refine mm_s_mono _ _ _ _ _ _ ?_ k
    rintro r_ h_ ⟨x11, I11, J11, rfl, rfl, k⟩
    exact st_zret rfl rfl k.1 (Nat.le_refl _) (Nat.le_refl _) k.2
def w_X7_readBoth_8 (SL : Nat) (xs : Nat → Int32) (d : Nat) (p s q : Nat) (Q : Option Value → mm_H → Prop) (v1 : Int32) (v2 : Int32) (v3 : Int32) (I : Nat → Nat → Int32) (J : Nat → Nat → Int64) : Prop := mm_w SL xs (mm_s SL xs (d + 90)) mm_am kX7_readBoth 0 0 (some .boolean) Q 8 [some (.ref 3), some (.int v1), some (.int v2), some (.int v3)] [] (hp p s q I J) 0 0
theorem sg_X7_readBoth {SL : Nat} {xs : Nat → Int32} {d : Nat} {p s q : Nat} {Q : Option Value → mm_H → Prop} {a0 : Int32} {I : Nat → Nat → Int32} {J : Nat → Nat → Int64}  (k : (mm_s SL xs (d + 90) 86 [.ref 3, .int a0] (hp p s q I J) (fun r_ h_ => ∃ x1 I1 J1, r_ = some (.int x1) ∧ h_ = hp p s q I1 J1 ∧ w_X7_readBoth_8 SL xs d p s q Q a0 x1 (Int32.ofInt 0) I1 J1))) : mm_s SL xs (d + 91) 85 [.ref 3, .int a0] (hp p s q I J) Q := by
  refine e_X7_readBoth rfl ?_
  refine sp_aload_n 1 rfl rfl rfl ?_
  refine sp_iload_n 2 rfl rfl rfl ?_
  refine sc_V 5 rfl rfl rfl rfl rfl (Nat.le_refl _) (Nat.le_refl _) rfl ?_
  refine mm_s_mono _ _ _ _ _ _ ?_ k
  rintro r_ h_ ⟨x1, I1, J1, rfl, rfl, k⟩
  refine sp_istore_n 6 rfl rfl rfl ?_
  refine sp_iconst 7 rfl rfl ?_
  refine sp_istore_n 8 rfl rfl rfl ?_
  exact k
theorem sg_X7_readBoth_8 {SL : Nat} {xs : Nat → Int32} {d : Nat} {p s q : Nat} {Q : Option Value → mm_H → Prop} {v1 : Int32} {v2 : Int32} {v3 : Int32} {I : Nat → Nat → Int32} {J : Nat → Nat → Int64} (h_q : isP q) (k : (((Int32.ofInt 40) ≤ v3 → ((v2 = 0 ∨ v2 = 1) ∧ Q (some (.int v2)) (hp p s q I J))) ∧ (¬ ((Int32.ofInt 40) ≤ v3) → ((v2 = Int32.ofInt 0 → ((v2 = 0 ∨ v2 = 1) ∧ Q (some (.int v2)) (hp p s q I J))) ∧ (¬ (v2 = Int32.ofInt 0) → (((I 4 2) = (Int32.ofInt 143) → (mm_s SL xs (d + 90) 105 [.ref 4] (hp p s q I J) (fun r_ h_ => ∃ I1 J1, r_ = none ∧ h_ = hp p s q I1 J1 ∧ (mm_s SL xs (d + 90) 86 [.ref 3, .int v1] (hp p s q I1 J1) (fun r_ h_ => ∃ x2 I2 J2, r_ = some (.int x2) ∧ h_ = hp p s q I2 J2 ∧ (mm_s SL xs (d + 90) 58 [.ref q, .int (Int32.ofInt (-143))] (hp p s q I2 J2) (fun r_ h_ => ∃ I3 J3, r_ = none ∧ h_ = hp p s q I3 J3 ∧ w_X7_readBoth_8 SL xs d p s q Q v1 x2 (v3 + Int32.ofInt 1) I3 J3))))))) ∧ (¬ ((I 4 2) = (Int32.ofInt 143)) → ((v2 = 0 ∨ v2 = 1) ∧ Q (some (.int v2)) (hp p s q I J))))))))) : w_X7_readBoth_8 SL xs d p s q Q v1 v2 v3 I J := by
  unfold w_X7_readBoth_8
  refine sp_iload_n 9 rfl rfl rfl ?_
  refine sp_bipush 11 rfl rfl ?_
  refine sp_I (y := Int32.ofInt 40) rfl ?_
  refine sp_ic_ge 14 rfl rfl (fun q => ?_) (fun q => ?_)
  · have k := k.1 q
    refine sp_iload_n 61 rfl rfl rfl ?_
    exact st_zret rfl rfl k.1 (Nat.le_refl _) (Nat.le_refl _) k.2
  · have k := k.2 q
    refine sp_iload_n 15 rfl rfl rfl ?_
    refine sp_if_eq 18 rfl rfl (fun q => ?_) (fun q => ?_)
    · have k := k.1 q
      refine sp_iload_n 61 rfl rfl rfl ?_
      exact st_zret rfl rfl k.1 (Nat.le_refl _) (Nat.le_refl _) k.2
    · have k := k.2 q
      refine sp_aload_n 19 rfl rfl rfl ?_
      refine hq_getR 22 rfl rfl rfl rfl ?_
      refine hq_getI 25 rfl rfl rfl ?_
      refine sp_sipush 28 rfl rfl ?_
      refine sp_I (y := Int32.ofInt 143) rfl ?_
      refine sp_ic_ne 31 rfl rfl (fun q => ?_) (fun q => ?_)
      · have k := k.2 q
        refine sp_iload_n 61 rfl rfl rfl ?_
        exact st_zret rfl rfl k.1 (Nat.le_refl _) (Nat.le_refl _) k.2
      · have k := k.1 q
        refine sp_aload_n 32 rfl rfl rfl ?_
        refine hq_getR 35 rfl rfl rfl rfl ?_
        refine sc_V 38 rfl rfl rfl rfl rfl (Nat.le_refl _) (Nat.le_refl _) rfl ?_
        refine mm_s_mono _ _ _ _ _ _ ?_ k
        rintro r_ h_ ⟨I1, J1, rfl, rfl, k⟩
        refine sp_aload_n 39 rfl rfl rfl ?_
        refine sp_iload_n 40 rfl rfl rfl ?_
        refine sc_V 43 rfl rfl rfl rfl rfl (Nat.le_refl _) (Nat.le_refl _) rfl ?_
        refine mm_s_mono _ _ _ _ _ _ ?_ k
        rintro r_ h_ ⟨x2, I2, J2, rfl, rfl, k⟩
        refine sp_istore_n 44 rfl rfl rfl ?_
        refine sp_aload_n 45 rfl rfl rfl ?_
        refine hq_getR 48 rfl rfl rfl rfl ?_
        refine sp_sipush 51 rfl rfl ?_
        refine sp_I (y := Int32.ofInt (-143)) rfl ?_
        refine sc_V 54 rfl rfl (kP0 h_q) rfl rfl (Nat.le_refl _) (Nat.le_refl _) rfl ?_
        refine mm_s_mono _ _ _ _ _ _ ?_ k
        rintro r_ h_ ⟨I3, J3, rfl, rfl, k⟩
        refine sp_iinc 57 rfl rfl rfl rfl ?_
        refine sp_goto rfl ?_
        exact k
def w_X7_readEither_8 (SL : Nat) (xs : Nat → Int32) (d : Nat) (p s q : Nat) (Q : Option Value → mm_H → Prop) (v1 : Int32) (v2 : Int32) (v3 : Int32) (I : Nat → Nat → Int32) (J : Nat → Nat → Int64) : Prop := mm_w SL xs (mm_s SL xs (d + 90)) mm_am kX7_readEither 0 0 (some .boolean) Q 8 [some (.ref 3), some (.int v1), some (.int v2), some (.int v3)] [] (hp p s q I J) 0 0
theorem sg_X7_readEither {SL : Nat} {xs : Nat → Int32} {d : Nat} {p s q : Nat} {Q : Option Value → mm_H → Prop} {a0 : Int32} {I : Nat → Nat → Int32} {J : Nat → Nat → Int64}  (k : (mm_s SL xs (d + 90) 85 [.ref 3, .int a0] (hp p s q I J) (fun r_ h_ => ∃ x1 I1 J1, r_ = some (.int x1) ∧ h_ = hp p s q I1 J1 ∧ w_X7_readEither_8 SL xs d p s q Q a0 x1 (Int32.ofInt 0) I1 J1))) : mm_s SL xs (d + 91) 84 [.ref 3, .int a0] (hp p s q I J) Q := by
  refine e_X7_readEither rfl ?_
  refine sp_aload_n 1 rfl rfl rfl ?_
  refine sp_iload_n 2 rfl rfl rfl ?_
  refine sc_V 5 rfl rfl rfl rfl rfl (Nat.le_refl _) (Nat.le_refl _) rfl ?_
  refine mm_s_mono _ _ _ _ _ _ ?_ k
  rintro r_ h_ ⟨x1, I1, J1, rfl, rfl, k⟩
  refine sp_istore_n 6 rfl rfl rfl ?_
  refine sp_iconst 7 rfl rfl ?_
  refine sp_istore_n 8 rfl rfl rfl ?_
  exact k
theorem sg_X7_readEither_8 {SL : Nat} {xs : Nat → Int32} {d : Nat} {p s q : Nat} {Q : Option Value → mm_H → Prop} {v1 : Int32} {v2 : Int32} {v3 : Int32} {I : Nat → Nat → Int32} {J : Nat → Nat → Int64} (h_q : isP q) (k : (((Int32.ofInt 40) ≤ v3 → ((v2 = 0 ∨ v2 = 1) ∧ Q (some (.int v2)) (hp p s q I J))) ∧ (¬ ((Int32.ofInt 40) ≤ v3) → ((v2 = Int32.ofInt 0 → ((v2 = 0 ∨ v2 = 1) ∧ Q (some (.int v2)) (hp p s q I J))) ∧ (¬ (v2 = Int32.ofInt 0) → (((I 4 2) = (Int32.ofInt 142) → (mm_s SL xs (d + 90) 105 [.ref 4] (hp p s q I J) (fun r_ h_ => ∃ I1 J1, r_ = none ∧ h_ = hp p s q I1 J1 ∧ (mm_s SL xs (d + 90) 85 [.ref 3, .int v1] (hp p s q I1 J1) (fun r_ h_ => ∃ x2 I2 J2, r_ = some (.int x2) ∧ h_ = hp p s q I2 J2 ∧ (mm_s SL xs (d + 90) 58 [.ref q, .int (Int32.ofInt (-142))] (hp p s q I2 J2) (fun r_ h_ => ∃ I3 J3, r_ = none ∧ h_ = hp p s q I3 J3 ∧ w_X7_readEither_8 SL xs d p s q Q v1 x2 (v3 + Int32.ofInt 1) I3 J3))))))) ∧ (¬ ((I 4 2) = (Int32.ofInt 142)) → ((v2 = 0 ∨ v2 = 1) ∧ Q (some (.int v2)) (hp p s q I J))))))))) : w_X7_readEither_8 SL xs d p s q Q v1 v2 v3 I J := by
  unfold w_X7_readEither_8
  refine sp_iload_n 9 rfl rfl rfl ?_
  refine sp_bipush 11 rfl rfl ?_
  refine sp_I (y := Int32.ofInt 40) rfl ?_
  refine sp_ic_ge 14 rfl rfl (fun q => ?_) (fun q => ?_)
  · have k := k.1 q
    refine sp_iload_n 61 rfl rfl rfl ?_
    exact st_zret rfl rfl k.1 (Nat.le_refl _) (Nat.le_refl _) k.2
  · have k := k.2 q
    refine sp_iload_n 15 rfl rfl rfl ?_
    refine sp_if_eq 18 rfl rfl (fun q => ?_) (fun q => ?_)
    · have k := k.1 q
      refine sp_iload_n 61 rfl rfl rfl ?_
      exact st_zret rfl rfl k.1 (Nat.le_refl _) (Nat.le_refl _) k.2
    · have k := k.2 q
      refine sp_aload_n 19 rfl rfl rfl ?_
      refine hq_getR 22 rfl rfl rfl rfl ?_
      refine hq_getI 25 rfl rfl rfl ?_
      refine sp_sipush 28 rfl rfl ?_
      refine sp_I (y := Int32.ofInt 142) rfl ?_
      refine sp_ic_ne 31 rfl rfl (fun q => ?_) (fun q => ?_)
      · have k := k.2 q
        refine sp_iload_n 61 rfl rfl rfl ?_
        exact st_zret rfl rfl k.1 (Nat.le_refl _) (Nat.le_refl _) k.2
      · have k := k.1 q
        refine sp_aload_n 32 rfl rfl rfl ?_
        refine hq_getR 35 rfl rfl rfl rfl ?_
        refine sc_V 38 rfl rfl rfl rfl rfl (Nat.le_refl _) (Nat.le_refl _) rfl ?_
        refine mm_s_mono _ _ _ _ _ _ ?_ k
        rintro r_ h_ ⟨I1, J1, rfl, rfl, k⟩
        refine sp_aload_n 39 rfl rfl rfl ?_
        refine sp_iload_n 40 rfl rfl rfl ?_
        refine sc_V 43 rfl rfl rfl rfl rfl (Nat.le_refl _) (Nat.le_refl _) rfl ?_
        refine mm_s_mono _ _ _ _ _ _ ?_ k
        rintro r_ h_ ⟨x2, I2, J2, rfl, rfl, k⟩
        refine sp_istore_n 44 rfl rfl rfl ?_
        refine sp_aload_n 45 rfl rfl rfl ?_
        refine hq_getR 48 rfl rfl rfl rfl ?_
        refine sp_sipush 51 rfl rfl ?_
        refine sp_I (y := Int32.ofInt (-142)) rfl ?_
        refine sc_V 54 rfl rfl (kP0 h_q) rfl rfl (Nat.le_refl _) (Nat.le_refl _) rfl ?_
        refine mm_s_mono _ _ _ _ _ _ ?_ k
        rintro r_ h_ ⟨I3, J3, rfl, rfl, k⟩
        refine sp_iinc 57 rfl rfl rfl rfl ?_
        refine sp_goto rfl ?_
        exact k
def w_X7_readLine_30 (SL : Nat) (xs : Nat → Int32) (d : Nat) (p s q : Nat) (Q : Option Value → mm_H → Prop) (v1 : Int32) (I : Nat → Nat → Int32) (J : Nat → Nat → Int64) : Prop := mm_w SL xs (mm_s SL xs (d + 90)) mm_am kX7_readLine 0 0 (some .boolean) Q 30 [some (.ref 3), some (.int v1), none] [] (hp p s q I J) 0 0
def w_X7_readLine_61 (SL : Nat) (xs : Nat → Int32) (d : Nat) (p s q : Nat) (Q : Option Value → mm_H → Prop) (v1 : Int32) (I : Nat → Nat → Int32) (J : Nat → Nat → Int64) : Prop := mm_w SL xs (mm_s SL xs (d + 90)) mm_am kX7_readLine 0 0 (some .boolean) Q 61 [some (.ref 3), some (.int v1), none] [] (hp p s q I J) 0 0
def w_X7_readLine_157 (SL : Nat) (xs : Nat → Int32) (d : Nat) (p s q : Nat) (Q : Option Value → mm_H → Prop) (v1 : Int32) (I : Nat → Nat → Int32) (J : Nat → Nat → Int64) : Prop := mm_w SL xs (mm_s SL xs (d + 90)) mm_am kX7_readLine 0 0 (some .boolean) Q 157 [some (.ref 3), some (.int v1), none] [] (hp p s q I J) 0 0
def w_X7_readLine_163 (SL : Nat) (xs : Nat → Int32) (d : Nat) (p s q : Nat) (Q : Option Value → mm_H → Prop) (v1 : Int32) (v2 : Int32) (I : Nat → Nat → Int32) (J : Nat → Nat → Int64) : Prop := mm_w SL xs (mm_s SL xs (d + 90)) mm_am kX7_readLine 0 0 (some .boolean) Q 163 [some (.ref 3), some (.int v1), some (.int v2)] [] (hp p s q I J) 0 0
def w_X7_readLine_180 (SL : Nat) (xs : Nat → Int32) (d : Nat) (p s q : Nat) (Q : Option Value → mm_H → Prop) (v1 : Int32) (v2 : Int32) (I : Nat → Nat → Int32) (J : Nat → Nat → Int64) : Prop := mm_w SL xs (mm_s SL xs (d + 90)) mm_am kX7_readLine 0 0 (some .boolean) Q 180 [some (.ref 3), some (.int v1), some (.int v2)] [] (hp p s q I J) 0 0
theorem sg_X7_readLine {SL : Nat} {xs : Nat → Int32} {d : Nat} {p s q : Nat} {Q : Option Value → mm_H → Prop}  {I : Nat → Nat → Int32} {J : Nat → Nat → Int64} (h_q : isP q) (k : (((I 4 2) < (Int32.ofInt 128) → w_X7_readLine_30 SL xs d p s q Q (I 4 2) I J) ∧ (¬ ((I 4 2) < (Int32.ofInt 128)) → (((Int32.ofInt 138) < (I 4 2) → w_X7_readLine_30 SL xs d p s q Q (I 4 2) I J) ∧ (¬ ((Int32.ofInt 138) < (I 4 2)) → (mm_s SL xs (d + 90) 77 [.ref 3, .int (I 4 2)] (hp p s q I J) (fun r_ h_ => ∃ x1 I1 J1, r_ = some (.int x1) ∧ h_ = hp p s q I1 J1 ∧ ((x1 = Int32.ofInt 0 → (vp_in ((I 4 2) - (Int32.ofInt 128)) 11 ∧ (((I 4 2) = (Int32.ofInt 131) → (mm_s SL xs (d + 90) 57 [.ref q] (hp p s q (mm_u I1 14 ((((I 4 2) - (Int32.ofInt 128))).toNatClampNeg) (Int32.ofInt 1)) J1) (fun r_ h_ => ∃ I2 J2, r_ = none ∧ h_ = hp p s q I2 J2 ∧ w_X7_readLine_61 SL xs d p s q Q (I 4 2) I2 J2))) ∧ (¬ ((I 4 2) = (Int32.ofInt 131)) → w_X7_readLine_61 SL xs d p s q Q (I 4 2) (mm_u I1 14 ((((I 4 2) - (Int32.ofInt 128))).toNatClampNeg) (Int32.ofInt 1)) J1)))) ∧ (¬ (x1 = Int32.ofInt 0) → w_X7_readLine_30 SL xs d p s q Q (I 4 2) I1 J1))))))))) : mm_s SL xs (d + 91) 76 [.ref 3] (hp p s q I J) Q := by
  refine e_X7_readLine rfl ?_
  refine sp_aload_n 1 rfl rfl rfl ?_
  refine hq_getR 4 rfl rfl rfl rfl ?_
  refine hq_getI 7 rfl rfl rfl ?_
  refine sp_istore_n 8 rfl rfl rfl ?_
  refine sp_iload_n 9 rfl rfl rfl ?_
  refine sp_sipush 12 rfl rfl ?_
  refine sp_I (y := Int32.ofInt 128) rfl ?_
  refine sp_ic_lt 15 rfl rfl (fun q => ?_) (fun q => ?_)
  · have k := k.1 q
    exact k
  · have k := k.2 q
    refine sp_iload_n 16 rfl rfl rfl ?_
    refine sp_sipush 19 rfl rfl ?_
    refine sp_I (y := Int32.ofInt 138) rfl ?_
    refine sp_ic_gt 22 rfl rfl (fun q => ?_) (fun q => ?_)
    · have k := k.1 q
      exact k
    · have k := k.2 q
      refine sp_aload_n 23 rfl rfl rfl ?_
      refine sp_iload_n 24 rfl rfl rfl ?_
      refine sc_V 27 rfl rfl rfl rfl rfl (Nat.le_refl _) (Nat.le_refl _) rfl ?_
      refine mm_s_mono _ _ _ _ _ _ ?_ k
      rintro r_ h_ ⟨x1, I1, J1, rfl, rfl, k⟩
      refine sp_if_eq 30 rfl rfl (fun q => ?_) (fun q => ?_)
      · have k := k.1 q
        refine sp_aload_n 37 rfl rfl rfl ?_
        refine hq_getR 40 rfl rfl rfl rfl ?_
        refine sp_iload_n 41 rfl rfl rfl ?_
        refine sp_sipush 44 rfl rfl ?_
        refine sp_I (y := Int32.ofInt 128) rfl ?_
        refine sp_isub 45 rfl rfl ?_
        refine sp_iconst 46 rfl rfl ?_
        have n1_ := k.1
        have k := k.2
        refine hq_zast 47 rfl rfl n1_ (by decide) rfl ?_
        refine sp_iload_n 48 rfl rfl rfl ?_
        refine sp_sipush 51 rfl rfl ?_
        refine sp_I (y := Int32.ofInt 131) rfl ?_
        refine sp_ic_ne 54 rfl rfl (fun q => ?_) (fun q => ?_)
        · have k := k.2 q
          exact k
        · have k := k.1 q
          refine sp_aload_n 55 rfl rfl rfl ?_
          refine hq_getR 58 rfl rfl rfl rfl ?_
          refine sc_V 61 rfl rfl (kP0 h_q) rfl rfl (Nat.le_refl _) (Nat.le_refl _) rfl ?_
          refine mm_s_mono _ _ _ _ _ _ ?_ k
          rintro r_ h_ ⟨I2, J2, rfl, rfl, k⟩
          exact k
      · have k := k.2 q
        exact k
theorem sg_X7_readLine_30 {SL : Nat} {xs : Nat → Int32} {d : Nat} {p s q : Nat} {Q : Option Value → mm_H → Prop} {v1 : Int32} {I : Nat → Nat → Int32} {J : Nat → Nat → Int64}  (k : (mm_s SL xs (d + 90) 74 [.ref 3, .int (Int32.ofInt 2)] (hp p s q I J) (fun r_ h_ => ∃ x1 I1 J1, r_ = some (.int x1) ∧ h_ = hp p s q I1 J1 ∧ ((x1 = 0 ∨ x1 = 1) ∧ Q (some (.int x1)) (hp p s q I1 J1))))) : w_X7_readLine_30 SL xs d p s q Q v1 I J := by
  unfold w_X7_readLine_30
  refine sp_aload_n 31 rfl rfl rfl ?_
  refine sp_iconst 32 rfl rfl ?_
  refine sc_V 35 rfl rfl rfl rfl rfl (Nat.le_refl _) (Nat.le_refl _) rfl ?_
  refine mm_s_mono _ _ _ _ _ _ ?_ k
  rintro r_ h_ ⟨x1, I1, J1, rfl, rfl, k⟩
  exact st_zret rfl rfl k.1 (Nat.le_refl _) (Nat.le_refl _) k.2
theorem sg_X7_readLine_61 {SL : Nat} {xs : Nat → Int32} {d : Nat} {p s q : Nat} {Q : Option Value → mm_H → Prop} {v1 : Int32} {I : Nat → Nat → Int32} {J : Nat → Nat → Int64}  (k : (mm_s SL xs (d + 90) 105 [.ref 4] (hp p s q I J) (fun r_ h_ => ∃ I1 J1, r_ = none ∧ h_ = hp p s q I1 J1 ∧ ((v1 = Int32.ofInt 131 → (mm_s SL xs (d + 90) 84 [.ref 3, .int (Int32.ofInt 0)] (hp p s q I1 J1) (fun r_ h_ => ∃ x2 I2 J2, r_ = some (.int x2) ∧ h_ = hp p s q I2 J2 ∧ w_X7_readLine_163 SL xs d p s q Q v1 x2 I2 J2))) ∧ (v1 = Int32.ofInt 135 → (mm_s SL xs (d + 90) 80 [.ref 3] (hp p s q I1 J1) (fun r_ h_ => ∃ x3 I3 J3, r_ = some (.int x3) ∧ h_ = hp p s q I3 J3 ∧ w_X7_readLine_163 SL xs d p s q Q v1 x3 I3 J3))) ∧ (v1 = Int32.ofInt 136 → (mm_s SL xs (d + 90) 81 [.ref 3] (hp p s q I1 J1) (fun r_ h_ => ∃ x4 I4 J4, r_ = some (.int x4) ∧ h_ = hp p s q I4 J4 ∧ w_X7_readLine_163 SL xs d p s q Q v1 x4 I4 J4))) ∧ (v1 = Int32.ofInt 137 → (mm_s SL xs (d + 90) 82 [.ref 3] (hp p s q I1 J1) (fun r_ h_ => ∃ x5 I5 J5, r_ = some (.int x5) ∧ h_ = hp p s q I5 J5 ∧ w_X7_readLine_163 SL xs d p s q Q v1 x5 I5 J5))) ∧ (v1 = Int32.ofInt 138 → (mm_s SL xs (d + 90) 83 [.ref 3] (hp p s q I1 J1) (fun r_ h_ => ∃ x6 I6 J6, r_ = some (.int x6) ∧ h_ = hp p s q I6 J6 ∧ w_X7_readLine_163 SL xs d p s q Q v1 x6 I6 J6))) ∧ (¬ v1 = Int32.ofInt 131 → ¬ v1 = Int32.ofInt 135 → ¬ v1 = Int32.ofInt 136 → ¬ v1 = Int32.ofInt 137 → ¬ v1 = Int32.ofInt 138 → w_X7_readLine_157 SL xs d p s q Q v1 I1 J1))))) : w_X7_readLine_61 SL xs d p s q Q v1 I J := by
  unfold w_X7_readLine_61
  refine sp_aload_n 62 rfl rfl rfl ?_
  refine hq_getR 65 rfl rfl rfl rfl ?_
  refine sc_V 68 rfl rfl rfl rfl rfl (Nat.le_refl _) (Nat.le_refl _) rfl ?_
  refine mm_s_mono _ _ _ _ _ _ ?_ k
  rintro r_ h_ ⟨I1, J1, rfl, rfl, k⟩
  refine sp_iload_n 69 rfl rfl rfl ?_
  by_cases q69_0 : v1 = Int32.ofInt 131
  · have k := k.1 q69_0
    refine sp_table (t := 116) rfl (by rw [q69_0]; rfl) ?_
    refine sp_aload_n 117 rfl rfl rfl ?_
    refine sp_iconst 118 rfl rfl ?_
    refine sc_V 121 rfl rfl rfl rfl rfl (Nat.le_refl _) (Nat.le_refl _) rfl ?_
    refine mm_s_mono _ _ _ _ _ _ ?_ k
    rintro r_ h_ ⟨x2, I2, J2, rfl, rfl, k⟩
    refine sp_istore_n 122 rfl rfl rfl ?_
    refine sp_goto rfl ?_
    exact k
  · skip
    by_cases q69_1 : v1 = Int32.ofInt 135
    · have k := k.2.1 q69_1
      refine sp_table (t := 125) rfl (by rw [q69_1]; rfl) ?_
      refine sp_aload_n 126 rfl rfl rfl ?_
      refine sc_V 129 rfl rfl rfl rfl rfl (Nat.le_refl _) (Nat.le_refl _) rfl ?_
      refine mm_s_mono _ _ _ _ _ _ ?_ k
      rintro r_ h_ ⟨x3, I3, J3, rfl, rfl, k⟩
      refine sp_istore_n 130 rfl rfl rfl ?_
      refine sp_goto rfl ?_
      exact k
    · skip
      by_cases q69_2 : v1 = Int32.ofInt 136
      · have k := k.2.2.1 q69_2
        refine sp_table (t := 133) rfl (by rw [q69_2]; rfl) ?_
        refine sp_aload_n 134 rfl rfl rfl ?_
        refine sc_V 137 rfl rfl rfl rfl rfl (Nat.le_refl _) (Nat.le_refl _) rfl ?_
        refine mm_s_mono _ _ _ _ _ _ ?_ k
        rintro r_ h_ ⟨x4, I4, J4, rfl, rfl, k⟩
        refine sp_istore_n 138 rfl rfl rfl ?_
        refine sp_goto rfl ?_
        exact k
      · skip
        by_cases q69_3 : v1 = Int32.ofInt 137
        · have k := k.2.2.2.1 q69_3
          refine sp_table (t := 141) rfl (by rw [q69_3]; rfl) ?_
          refine sp_aload_n 142 rfl rfl rfl ?_
          refine sc_V 145 rfl rfl rfl rfl rfl (Nat.le_refl _) (Nat.le_refl _) rfl ?_
          refine mm_s_mono _ _ _ _ _ _ ?_ k
          rintro r_ h_ ⟨x5, I5, J5, rfl, rfl, k⟩
          refine sp_istore_n 146 rfl rfl rfl ?_
          refine sp_goto rfl ?_
          exact k
        · skip
          by_cases q69_4 : v1 = Int32.ofInt 138
          · have k := k.2.2.2.2.1 q69_4
            refine sp_table (t := 149) rfl (by rw [q69_4]; rfl) ?_
            refine sp_aload_n 150 rfl rfl rfl ?_
            refine sc_V 153 rfl rfl rfl rfl rfl (Nat.le_refl _) (Nat.le_refl _) rfl ?_
            refine mm_s_mono _ _ _ _ _ _ ?_ k
            rintro r_ h_ ⟨x6, I6, J6, rfl, rfl, k⟩
            refine sp_istore_n 154 rfl rfl rfl ?_
            refine sp_goto rfl ?_
            exact k
          · skip
            have k := k.2.2.2.2.2 q69_0 q69_1 q69_2 q69_3 q69_4
            refine sp_table (t := 157) rfl ?_ ?_
            · unfold mm_tab
              rcases Classical.em (v1.toInt < 131 ∨ 138 < v1.toInt) with z | z
              · rw [if_pos z]; rfl
              · rw [if_neg z]
                have : v1.toInt = 132 ∨ v1.toInt = 133 ∨ v1.toInt = 134 := by
                  have := tb_ne q69_0; have := tb_ne q69_1; have := tb_ne q69_2; have := tb_ne q69_3; have := tb_ne q69_4
                  omega
                rcases this with e_ | e_ | e_ <;> (rw [e_]; rfl)
            · skip
              exact k
theorem sg_X7_readLine_157 {SL : Nat} {xs : Nat → Int32} {d : Nat} {p s q : Nat} {Q : Option Value → mm_H → Prop} {v1 : Int32} {I : Nat → Nat → Int32} {J : Nat → Nat → Int64}  (k : (mm_s SL xs (d + 90) 79 [.ref 3, .int v1] (hp p s q I J) (fun r_ h_ => ∃ x1 I1 J1, r_ = some (.int x1) ∧ h_ = hp p s q I1 J1 ∧ w_X7_readLine_163 SL xs d p s q Q v1 x1 I1 J1))) : w_X7_readLine_157 SL xs d p s q Q v1 I J := by
  unfold w_X7_readLine_157
  refine sp_aload_n 158 rfl rfl rfl ?_
  refine sp_iload_n 159 rfl rfl rfl ?_
  refine sc_V 162 rfl rfl rfl rfl rfl (Nat.le_refl _) (Nat.le_refl _) rfl ?_
  refine mm_s_mono _ _ _ _ _ _ ?_ k
  rintro r_ h_ ⟨x1, I1, J1, rfl, rfl, k⟩
  refine sp_istore_n 163 rfl rfl rfl ?_
  exact k
theorem sg_X7_readLine_163 {SL : Nat} {xs : Nat → Int32} {d : Nat} {p s q : Nat} {Q : Option Value → mm_H → Prop} {v1 : Int32} {v2 : Int32} {I : Nat → Nat → Int32} {J : Nat → Nat → Int64}  (k : ((v2 = Int32.ofInt 0 → w_X7_readLine_180 SL xs d p s q Q v1 v2 I J) ∧ (¬ (v2 = Int32.ofInt 0) → (mm_s SL xs (d + 90) 75 [.ref 3, .int (Int32.ofInt 59)] (hp p s q I J) (fun r_ h_ => ∃ x1 I1 J1, r_ = some (.int x1) ∧ h_ = hp p s q I1 J1 ∧ ((x1 = Int32.ofInt 0 → w_X7_readLine_180 SL xs d p s q Q v1 v2 I1 J1) ∧ (¬ (x1 = Int32.ofInt 0) → Q (some (.int (Int32.ofInt 1))) (hp p s q I1 J1)))))))) : w_X7_readLine_163 SL xs d p s q Q v1 v2 I J := by
  unfold w_X7_readLine_163
  refine sp_iload_n 164 rfl rfl rfl ?_
  refine sp_if_eq 167 rfl rfl (fun q => ?_) (fun q => ?_)
  · have k := k.1 q
    exact k
  · have k := k.2 q
    refine sp_aload_n 168 rfl rfl rfl ?_
    refine sp_bipush 170 rfl rfl ?_
    refine sp_I (y := Int32.ofInt 59) rfl ?_
    refine sc_V 173 rfl rfl rfl rfl rfl (Nat.le_refl _) (Nat.le_refl _) rfl ?_
    refine mm_s_mono _ _ _ _ _ _ ?_ k
    rintro r_ h_ ⟨x1, I1, J1, rfl, rfl, k⟩
    refine sp_if_eq 176 rfl rfl (fun q => ?_) (fun q => ?_)
    · have k := k.1 q
      exact k
    · have k := k.2 q
      refine sp_iconst 177 rfl rfl ?_
      refine sp_goto rfl ?_
      exact st_zret rfl rfl (by decide) (Nat.le_refl _) (Nat.le_refl _) k
theorem sg_X7_readLine_180 {SL : Nat} {xs : Nat → Int32} {d : Nat} {p s q : Nat} {Q : Option Value → mm_H → Prop} {v1 : Int32} {v2 : Int32} {I : Nat → Nat → Int32} {J : Nat → Nat → Int64}  (k : Q (some (.int (Int32.ofInt 0))) (hp p s q I J)) : w_X7_readLine_180 SL xs d p s q Q v1 v2 I J := by
  unfold w_X7_readLine_180
  refine sp_iconst 181 rfl rfl ?_
  exact st_zret rfl rfl (by decide) (Nat.le_refl _) (Nat.le_refl _) k
