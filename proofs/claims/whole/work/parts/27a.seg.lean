theorem sg_X1_copyFrom {SL : Nat} {xs : Nat → Int32} {d : Nat} {p s q : Nat} {Q : Option Value → mm_H → Prop} {o : Nat} {a0 : Nat} {I : Nat → Nat → Int32} {J : Nat → Nat → Int64} (h_a0 : isC a0) (h_o : isC o) (k : Q none (hp p s q (fun i_ => if i_ = (o + 3) then va_cpy ((fun i_ => if i_ = (o + 2) then va_cpy ((fun i_ => if i_ = (o + 1) then va_cpy ((mm_u (mm_u (mm_u (mm_u (mm_u (mm_u I o 2 (I a0 2)) o 3 ((mm_u I o 2 (I a0 2)) a0 3)) o 4 ((mm_u (mm_u I o 2 (I a0 2)) o 3 ((mm_u I o 2 (I a0 2)) a0 3)) a0 4)) o 5 ((mm_u (mm_u (mm_u I o 2 (I a0 2)) o 3 ((mm_u I o 2 (I a0 2)) a0 3)) o 4 ((mm_u (mm_u I o 2 (I a0 2)) o 3 ((mm_u I o 2 (I a0 2)) a0 3)) a0 4)) a0 5)) o 9 ((mm_u (mm_u (mm_u (mm_u I o 2 (I a0 2)) o 3 ((mm_u I o 2 (I a0 2)) a0 3)) o 4 ((mm_u (mm_u I o 2 (I a0 2)) o 3 ((mm_u I o 2 (I a0 2)) a0 3)) a0 4)) o 5 ((mm_u (mm_u (mm_u I o 2 (I a0 2)) o 3 ((mm_u I o 2 (I a0 2)) a0 3)) o 4 ((mm_u (mm_u I o 2 (I a0 2)) o 3 ((mm_u I o 2 (I a0 2)) a0 3)) a0 4)) a0 5)) a0 9)) o 10 ((mm_u (mm_u (mm_u (mm_u (mm_u I o 2 (I a0 2)) o 3 ((mm_u I o 2 (I a0 2)) a0 3)) o 4 ((mm_u (mm_u I o 2 (I a0 2)) o 3 ((mm_u I o 2 (I a0 2)) a0 3)) a0 4)) o 5 ((mm_u (mm_u (mm_u I o 2 (I a0 2)) o 3 ((mm_u I o 2 (I a0 2)) a0 3)) o 4 ((mm_u (mm_u I o 2 (I a0 2)) o 3 ((mm_u I o 2 (I a0 2)) a0 3)) a0 4)) a0 5)) o 9 ((mm_u (mm_u (mm_u (mm_u I o 2 (I a0 2)) o 3 ((mm_u I o 2 (I a0 2)) a0 3)) o 4 ((mm_u (mm_u I o 2 (I a0 2)) o 3 ((mm_u I o 2 (I a0 2)) a0 3)) a0 4)) o 5 ((mm_u (mm_u (mm_u I o 2 (I a0 2)) o 3 ((mm_u I o 2 (I a0 2)) a0 3)) o 4 ((mm_u (mm_u I o 2 (I a0 2)) o 3 ((mm_u I o 2 (I a0 2)) a0 3)) a0 4)) a0 5)) a0 9)) a0 10)) (a0 + 1)) ((mm_u (mm_u (mm_u (mm_u (mm_u (mm_u I o 2 (I a0 2)) o 3 ((mm_u I o 2 (I a0 2)) a0 3)) o 4 ((mm_u (mm_u I o 2 (I a0 2)) o 3 ((mm_u I o 2 (I a0 2)) a0 3)) a0 4)) o 5 ((mm_u (mm_u (mm_u I o 2 (I a0 2)) o 3 ((mm_u I o 2 (I a0 2)) a0 3)) o 4 ((mm_u (mm_u I o 2 (I a0 2)) o 3 ((mm_u I o 2 (I a0 2)) a0 3)) a0 4)) a0 5)) o 9 ((mm_u (mm_u (mm_u (mm_u I o 2 (I a0 2)) o 3 ((mm_u I o 2 (I a0 2)) a0 3)) o 4 ((mm_u (mm_u I o 2 (I a0 2)) o 3 ((mm_u I o 2 (I a0 2)) a0 3)) a0 4)) o 5 ((mm_u (mm_u (mm_u I o 2 (I a0 2)) o 3 ((mm_u I o 2 (I a0 2)) a0 3)) o 4 ((mm_u (mm_u I o 2 (I a0 2)) o 3 ((mm_u I o 2 (I a0 2)) a0 3)) a0 4)) a0 5)) a0 9)) o 10 ((mm_u (mm_u (mm_u (mm_u (mm_u I o 2 (I a0 2)) o 3 ((mm_u I o 2 (I a0 2)) a0 3)) o 4 ((mm_u (mm_u I o 2 (I a0 2)) o 3 ((mm_u I o 2 (I a0 2)) a0 3)) a0 4)) o 5 ((mm_u (mm_u (mm_u I o 2 (I a0 2)) o 3 ((mm_u I o 2 (I a0 2)) a0 3)) o 4 ((mm_u (mm_u I o 2 (I a0 2)) o 3 ((mm_u I o 2 (I a0 2)) a0 3)) a0 4)) a0 5)) o 9 ((mm_u (mm_u (mm_u (mm_u I o 2 (I a0 2)) o 3 ((mm_u I o 2 (I a0 2)) a0 3)) o 4 ((mm_u (mm_u I o 2 (I a0 2)) o 3 ((mm_u I o 2 (I a0 2)) a0 3)) a0 4)) o 5 ((mm_u (mm_u (mm_u I o 2 (I a0 2)) o 3 ((mm_u I o 2 (I a0 2)) a0 3)) o 4 ((mm_u (mm_u I o 2 (I a0 2)) o 3 ((mm_u I o 2 (I a0 2)) a0 3)) a0 4)) a0 5)) a0 9)) a0 10)) (o + 1)) ((Int32.ofInt 0)).toNatClampNeg ((Int32.ofInt 0)).toNatClampNeg ((Int32.ofInt 60)).toNatClampNeg else (mm_u (mm_u (mm_u (mm_u (mm_u (mm_u I o 2 (I a0 2)) o 3 ((mm_u I o 2 (I a0 2)) a0 3)) o 4 ((mm_u (mm_u I o 2 (I a0 2)) o 3 ((mm_u I o 2 (I a0 2)) a0 3)) a0 4)) o 5 ((mm_u (mm_u (mm_u I o 2 (I a0 2)) o 3 ((mm_u I o 2 (I a0 2)) a0 3)) o 4 ((mm_u (mm_u I o 2 (I a0 2)) o 3 ((mm_u I o 2 (I a0 2)) a0 3)) a0 4)) a0 5)) o 9 ((mm_u (mm_u (mm_u (mm_u I o 2 (I a0 2)) o 3 ((mm_u I o 2 (I a0 2)) a0 3)) o 4 ((mm_u (mm_u I o 2 (I a0 2)) o 3 ((mm_u I o 2 (I a0 2)) a0 3)) a0 4)) o 5 ((mm_u (mm_u (mm_u I o 2 (I a0 2)) o 3 ((mm_u I o 2 (I a0 2)) a0 3)) o 4 ((mm_u (mm_u I o 2 (I a0 2)) o 3 ((mm_u I o 2 (I a0 2)) a0 3)) a0 4)) a0 5)) a0 9)) o 10 ((mm_u (mm_u (mm_u (mm_u (mm_u I o 2 (I a0 2)) o 3 ((mm_u I o 2 (I a0 2)) a0 3)) o 4 ((mm_u (mm_u I o 2 (I a0 2)) o 3 ((mm_u I o 2 (I a0 2)) a0 3)) a0 4)) o 5 ((mm_u (mm_u (mm_u I o 2 (I a0 2)) o 3 ((mm_u I o 2 (I a0 2)) a0 3)) o 4 ((mm_u (mm_u I o 2 (I a0 2)) o 3 ((mm_u I o 2 (I a0 2)) a0 3)) a0 4)) a0 5)) o 9 ((mm_u (mm_u (mm_u (mm_u I o 2 (I a0 2)) o 3 ((mm_u I o 2 (I a0 2)) a0 3)) o 4 ((mm_u (mm_u I o 2 (I a0 2)) o 3 ((mm_u I o 2 (I a0 2)) a0 3)) a0 4)) o 5 ((mm_u (mm_u (mm_u I o 2 (I a0 2)) o 3 ((mm_u I o 2 (I a0 2)) a0 3)) o 4 ((mm_u (mm_u I o 2 (I a0 2)) o 3 ((mm_u I o 2 (I a0 2)) a0 3)) a0 4)) a0 5)) a0 9)) a0 10)) i_) (a0 + 2)) ((fun i_ => if i_ = (o + 1) then va_cpy ((mm_u (mm_u (mm_u (mm_u (mm_u (mm_u I o 2 (I a0 2)) o 3 ((mm_u I o 2 (I a0 2)) a0 3)) o 4 ((mm_u (mm_u I o 2 (I a0 2)) o 3 ((mm_u I o 2 (I a0 2)) a0 3)) a0 4)) o 5 ((mm_u (mm_u (mm_u I o 2 (I a0 2)) o 3 ((mm_u I o 2 (I a0 2)) a0 3)) o 4 ((mm_u (mm_u I o 2 (I a0 2)) o 3 ((mm_u I o 2 (I a0 2)) a0 3)) a0 4)) a0 5)) o 9 ((mm_u (mm_u (mm_u (mm_u I o 2 (I a0 2)) o 3 ((mm_u I o 2 (I a0 2)) a0 3)) o 4 ((mm_u (mm_u I o 2 (I a0 2)) o 3 ((mm_u I o 2 (I a0 2)) a0 3)) a0 4)) o 5 ((mm_u (mm_u (mm_u I o 2 (I a0 2)) o 3 ((mm_u I o 2 (I a0 2)) a0 3)) o 4 ((mm_u (mm_u I o 2 (I a0 2)) o 3 ((mm_u I o 2 (I a0 2)) a0 3)) a0 4)) a0 5)) a0 9)) o 10 ((mm_u (mm_u (mm_u (mm_u (mm_u I o 2 (I a0 2)) o 3 ((mm_u I o 2 (I a0 2)) a0 3)) o 4 ((mm_u (mm_u I o 2 (I a0 2)) o 3 ((mm_u I o 2 (I a0 2)) a0 3)) a0 4)) o 5 ((mm_u (mm_u (mm_u I o 2 (I a0 2)) o 3 ((mm_u I o 2 (I a0 2)) a0 3)) o 4 ((mm_u (mm_u I o 2 (I a0 2)) o 3 ((mm_u I o 2 (I a0 2)) a0 3)) a0 4)) a0 5)) o 9 ((mm_u (mm_u (mm_u (mm_u I o 2 (I a0 2)) o 3 ((mm_u I o 2 (I a0 2)) a0 3)) o 4 ((mm_u (mm_u I o 2 (I a0 2)) o 3 ((mm_u I o 2 (I a0 2)) a0 3)) a0 4)) o 5 ((mm_u (mm_u (mm_u I o 2 (I a0 2)) o 3 ((mm_u I o 2 (I a0 2)) a0 3)) o 4 ((mm_u (mm_u I o 2 (I a0 2)) o 3 ((mm_u I o 2 (I a0 2)) a0 3)) a0 4)) a0 5)) a0 9)) a0 10)) (a0 + 1)) ((mm_u (mm_u (mm_u (mm_u (mm_u (mm_u I o 2 (I a0 2)) o 3 ((mm_u I o 2 (I a0 2)) a0 3)) o 4 ((mm_u (mm_u I o 2 (I a0 2)) o 3 ((mm_u I o 2 (I a0 2)) a0 3)) a0 4)) o 5 ((mm_u (mm_u (mm_u I o 2 (I a0 2)) o 3 ((mm_u I o 2 (I a0 2)) a0 3)) o 4 ((mm_u (mm_u I o 2 (I a0 2)) o 3 ((mm_u I o 2 (I a0 2)) a0 3)) a0 4)) a0 5)) o 9 ((mm_u (mm_u (mm_u (mm_u I o 2 (I a0 2)) o 3 ((mm_u I o 2 (I a0 2)) a0 3)) o 4 ((mm_u (mm_u I o 2 (I a0 2)) o 3 ((mm_u I o 2 (I a0 2)) a0 3)) a0 4)) o 5 ((mm_u (mm_u (mm_u I o 2 (I a0 2)) o 3 ((mm_u I o 2 (I a0 2)) a0 3)) o 4 ((mm_u (mm_u I o 2 (I a0 2)) o 3 ((mm_u I o 2 (I a0 2)) a0 3)) a0 4)) a0 5)) a0 9)) o 10 ((mm_u (mm_u (mm_u (mm_u (mm_u I o 2 (I a0 2)) o 3 ((mm_u I o 2 (I a0 2)) a0 3)) o 4 ((mm_u (mm_u I o 2 (I a0 2)) o 3 ((mm_u I o 2 (I a0 2)) a0 3)) a0 4)) o 5 ((mm_u (mm_u (mm_u I o 2 (I a0 2)) o 3 ((mm_u I o 2 (I a0 2)) a0 3)) o 4 ((mm_u (mm_u I o 2 (I a0 2)) o 3 ((mm_u I o 2 (I a0 2)) a0 3)) a0 4)) a0 5)) o 9 ((mm_u (mm_u (mm_u (mm_u I o 2 (I a0 2)) o 3 ((mm_u I o 2 (I a0 2)) a0 3)) o 4 ((mm_u (mm_u I o 2 (I a0 2)) o 3 ((mm_u I o 2 (I a0 2)) a0 3)) a0 4)) o 5 ((mm_u (mm_u (mm_u I o 2 (I a0 2)) o 3 ((mm_u I o 2 (I a0 2)) a0 3)) o 4 ((mm_u (mm_u I o 2 (I a0 2)) o 3 ((mm_u I o 2 (I a0 2)) a0 3)) a0 4)) a0 5)) a0 9)) a0 10)) (o + 1)) ((Int32.ofInt 0)).toNatClampNeg ((Int32.ofInt 0)).toNatClampNeg ((Int32.ofInt 60)).toNatClampNeg else (mm_u (mm_u (mm_u (mm_u (mm_u (mm_u I o 2 (I a0 2)) o 3 ((mm_u I o 2 (I a0 2)) a0 3)) o 4 ((mm_u (mm_u I o 2 (I a0 2)) o 3 ((mm_u I o 2 (I a0 2)) a0 3)) a0 4)) o 5 ((mm_u (mm_u (mm_u I o 2 (I a0 2)) o 3 ((mm_u I o 2 (I a0 2)) a0 3)) o 4 ((mm_u (mm_u I o 2 (I a0 2)) o 3 ((mm_u I o 2 (I a0 2)) a0 3)) a0 4)) a0 5)) o 9 ((mm_u (mm_u (mm_u (mm_u I o 2 (I a0 2)) o 3 ((mm_u I o 2 (I a0 2)) a0 3)) o 4 ((mm_u (mm_u I o 2 (I a0 2)) o 3 ((mm_u I o 2 (I a0 2)) a0 3)) a0 4)) o 5 ((mm_u (mm_u (mm_u I o 2 (I a0 2)) o 3 ((mm_u I o 2 (I a0 2)) a0 3)) o 4 ((mm_u (mm_u I o 2 (I a0 2)) o 3 ((mm_u I o 2 (I a0 2)) a0 3)) a0 4)) a0 5)) a0 9)) o 10 ((mm_u (mm_u (mm_u (mm_u (mm_u I o 2 (I a0 2)) o 3 ((mm_u I o 2 (I a0 2)) a0 3)) o 4 ((mm_u (mm_u I o 2 (I a0 2)) o 3 ((mm_u I o 2 (I a0 2)) a0 3)) a0 4)) o 5 ((mm_u (mm_u (mm_u I o 2 (I a0 2)) o 3 ((mm_u I o 2 (I a0 2)) a0 3)) o 4 ((mm_u (mm_u I o 2 (I a0 2)) o 3 ((mm_u I o 2 (I a0 2)) a0 3)) a0 4)) a0 5)) o 9 ((mm_u (mm_u (mm_u (mm_u I o 2 (I a0 2)) o 3 ((mm_u I o 2 (I a0 2)) a0 3)) o 4 ((mm_u (mm_u I o 2 (I a0 2)) o 3 ((mm_u I o 2 (I a0 2)) a0 3)) a0 4)) o 5 ((mm_u (mm_u (mm_u I o 2 (I a0 2)) o 3 ((mm_u I o 2 (I a0 2)) a0 3)) o 4 ((mm_u (mm_u I o 2 (I a0 2)) o 3 ((mm_u I o 2 (I a0 2)) a0 3)) a0 4)) a0 5)) a0 9)) a0 10)) i_) (o + 2)) ((Int32.ofInt 0)).toNatClampNeg ((Int32.ofInt 0)).toNatClampNeg ((Int32.ofInt 60)).toNatClampNeg else (fun i_ => if i_ = (o + 1) then va_cpy ((mm_u (mm_u (mm_u (mm_u (mm_u (mm_u I o 2 (I a0 2)) o 3 ((mm_u I o 2 (I a0 2)) a0 3)) o 4 ((mm_u (mm_u I o 2 (I a0 2)) o 3 ((mm_u I o 2 (I a0 2)) a0 3)) a0 4)) o 5 ((mm_u (mm_u (mm_u I o 2 (I a0 2)) o 3 ((mm_u I o 2 (I a0 2)) a0 3)) o 4 ((mm_u (mm_u I o 2 (I a0 2)) o 3 ((mm_u I o 2 (I a0 2)) a0 3)) a0 4)) a0 5)) o 9 ((mm_u (mm_u (mm_u (mm_u I o 2 (I a0 2)) o 3 ((mm_u I o 2 (I a0 2)) a0 3)) o 4 ((mm_u (mm_u I o 2 (I a0 2)) o 3 ((mm_u I o 2 (I a0 2)) a0 3)) a0 4)) o 5 ((mm_u (mm_u (mm_u I o 2 (I a0 2)) o 3 ((mm_u I o 2 (I a0 2)) a0 3)) o 4 ((mm_u (mm_u I o 2 (I a0 2)) o 3 ((mm_u I o 2 (I a0 2)) a0 3)) a0 4)) a0 5)) a0 9)) o 10 ((mm_u (mm_u (mm_u (mm_u (mm_u I o 2 (I a0 2)) o 3 ((mm_u I o 2 (I a0 2)) a0 3)) o 4 ((mm_u (mm_u I o 2 (I a0 2)) o 3 ((mm_u I o 2 (I a0 2)) a0 3)) a0 4)) o 5 ((mm_u (mm_u (mm_u I o 2 (I a0 2)) o 3 ((mm_u I o 2 (I a0 2)) a0 3)) o 4 ((mm_u (mm_u I o 2 (I a0 2)) o 3 ((mm_u I o 2 (I a0 2)) a0 3)) a0 4)) a0 5)) o 9 ((mm_u (mm_u (mm_u (mm_u I o 2 (I a0 2)) o 3 ((mm_u I o 2 (I a0 2)) a0 3)) o 4 ((mm_u (mm_u I o 2 (I a0 2)) o 3 ((mm_u I o 2 (I a0 2)) a0 3)) a0 4)) o 5 ((mm_u (mm_u (mm_u I o 2 (I a0 2)) o 3 ((mm_u I o 2 (I a0 2)) a0 3)) o 4 ((mm_u (mm_u I o 2 (I a0 2)) o 3 ((mm_u I o 2 (I a0 2)) a0 3)) a0 4)) a0 5)) a0 9)) a0 10)) (a0 + 1)) ((mm_u (mm_u (mm_u (mm_u (mm_u (mm_u I o 2 (I a0 2)) o 3 ((mm_u I o 2 (I a0 2)) a0 3)) o 4 ((mm_u (mm_u I o 2 (I a0 2)) o 3 ((mm_u I o 2 (I a0 2)) a0 3)) a0 4)) o 5 ((mm_u (mm_u (mm_u I o 2 (I a0 2)) o 3 ((mm_u I o 2 (I a0 2)) a0 3)) o 4 ((mm_u (mm_u I o 2 (I a0 2)) o 3 ((mm_u I o 2 (I a0 2)) a0 3)) a0 4)) a0 5)) o 9 ((mm_u (mm_u (mm_u (mm_u I o 2 (I a0 2)) o 3 ((mm_u I o 2 (I a0 2)) a0 3)) o 4 ((mm_u (mm_u I o 2 (I a0 2)) o 3 ((mm_u I o 2 (I a0 2)) a0 3)) a0 4)) o 5 ((mm_u (mm_u (mm_u I o 2 (I a0 2)) o 3 ((mm_u I o 2 (I a0 2)) a0 3)) o 4 ((mm_u (mm_u I o 2 (I a0 2)) o 3 ((mm_u I o 2 (I a0 2)) a0 3)) a0 4)) a0 5)) a0 9)) o 10 ((mm_u (mm_u (mm_u (mm_u (mm_u I o 2 (I a0 2)) o 3 ((mm_u I o 2 (I a0 2)) a0 3)) o 4 ((mm_u (mm_u I o 2 (I a0 2)) o 3 ((mm_u I o 2 (I a0 2)) a0 3)) a0 4)) o 5 ((mm_u (mm_u (mm_u I o 2 (I a0 2)) o 3 ((mm_u I o 2 (I a0 2)) a0 3)) o 4 ((mm_u (mm_u I o 2 (I a0 2)) o 3 ((mm_u I o 2 (I a0 2)) a0 3)) a0 4)) a0 5)) o 9 ((mm_u (mm_u (mm_u (mm_u I o 2 (I a0 2)) o 3 ((mm_u I o 2 (I a0 2)) a0 3)) o 4 ((mm_u (mm_u I o 2 (I a0 2)) o 3 ((mm_u I o 2 (I a0 2)) a0 3)) a0 4)) o 5 ((mm_u (mm_u (mm_u I o 2 (I a0 2)) o 3 ((mm_u I o 2 (I a0 2)) a0 3)) o 4 ((mm_u (mm_u I o 2 (I a0 2)) o 3 ((mm_u I o 2 (I a0 2)) a0 3)) a0 4)) a0 5)) a0 9)) a0 10)) (o + 1)) ((Int32.ofInt 0)).toNatClampNeg ((Int32.ofInt 0)).toNatClampNeg ((Int32.ofInt 60)).toNatClampNeg else (mm_u (mm_u (mm_u (mm_u (mm_u (mm_u I o 2 (I a0 2)) o 3 ((mm_u I o 2 (I a0 2)) a0 3)) o 4 ((mm_u (mm_u I o 2 (I a0 2)) o 3 ((mm_u I o 2 (I a0 2)) a0 3)) a0 4)) o 5 ((mm_u (mm_u (mm_u I o 2 (I a0 2)) o 3 ((mm_u I o 2 (I a0 2)) a0 3)) o 4 ((mm_u (mm_u I o 2 (I a0 2)) o 3 ((mm_u I o 2 (I a0 2)) a0 3)) a0 4)) a0 5)) o 9 ((mm_u (mm_u (mm_u (mm_u I o 2 (I a0 2)) o 3 ((mm_u I o 2 (I a0 2)) a0 3)) o 4 ((mm_u (mm_u I o 2 (I a0 2)) o 3 ((mm_u I o 2 (I a0 2)) a0 3)) a0 4)) o 5 ((mm_u (mm_u (mm_u I o 2 (I a0 2)) o 3 ((mm_u I o 2 (I a0 2)) a0 3)) o 4 ((mm_u (mm_u I o 2 (I a0 2)) o 3 ((mm_u I o 2 (I a0 2)) a0 3)) a0 4)) a0 5)) a0 9)) o 10 ((mm_u (mm_u (mm_u (mm_u (mm_u I o 2 (I a0 2)) o 3 ((mm_u I o 2 (I a0 2)) a0 3)) o 4 ((mm_u (mm_u I o 2 (I a0 2)) o 3 ((mm_u I o 2 (I a0 2)) a0 3)) a0 4)) o 5 ((mm_u (mm_u (mm_u I o 2 (I a0 2)) o 3 ((mm_u I o 2 (I a0 2)) a0 3)) o 4 ((mm_u (mm_u I o 2 (I a0 2)) o 3 ((mm_u I o 2 (I a0 2)) a0 3)) a0 4)) a0 5)) o 9 ((mm_u (mm_u (mm_u (mm_u I o 2 (I a0 2)) o 3 ((mm_u I o 2 (I a0 2)) a0 3)) o 4 ((mm_u (mm_u I o 2 (I a0 2)) o 3 ((mm_u I o 2 (I a0 2)) a0 3)) a0 4)) o 5 ((mm_u (mm_u (mm_u I o 2 (I a0 2)) o 3 ((mm_u I o 2 (I a0 2)) a0 3)) o 4 ((mm_u (mm_u I o 2 (I a0 2)) o 3 ((mm_u I o 2 (I a0 2)) a0 3)) a0 4)) a0 5)) a0 9)) a0 10)) i_) i_) (a0 + 3)) ((fun i_ => if i_ = (o + 2) then va_cpy ((fun i_ => if i_ = (o + 1) then va_cpy ((mm_u (mm_u (mm_u (mm_u (mm_u (mm_u I o 2 (I a0 2)) o 3 ((mm_u I o 2 (I a0 2)) a0 3)) o 4 ((mm_u (mm_u I o 2 (I a0 2)) o 3 ((mm_u I o 2 (I a0 2)) a0 3)) a0 4)) o 5 ((mm_u (mm_u (mm_u I o 2 (I a0 2)) o 3 ((mm_u I o 2 (I a0 2)) a0 3)) o 4 ((mm_u (mm_u I o 2 (I a0 2)) o 3 ((mm_u I o 2 (I a0 2)) a0 3)) a0 4)) a0 5)) o 9 ((mm_u (mm_u (mm_u (mm_u I o 2 (I a0 2)) o 3 ((mm_u I o 2 (I a0 2)) a0 3)) o 4 ((mm_u (mm_u I o 2 (I a0 2)) o 3 ((mm_u I o 2 (I a0 2)) a0 3)) a0 4)) o 5 ((mm_u (mm_u (mm_u I o 2 (I a0 2)) o 3 ((mm_u I o 2 (I a0 2)) a0 3)) o 4 ((mm_u (mm_u I o 2 (I a0 2)) o 3 ((mm_u I o 2 (I a0 2)) a0 3)) a0 4)) a0 5)) a0 9)) o 10 ((mm_u (mm_u (mm_u (mm_u (mm_u I o 2 (I a0 2)) o 3 ((mm_u I o 2 (I a0 2)) a0 3)) o 4 ((mm_u (mm_u I o 2 (I a0 2)) o 3 ((mm_u I o 2 (I a0 2)) a0 3)) a0 4)) o 5 ((mm_u (mm_u (mm_u I o 2 (I a0 2)) o 3 ((mm_u I o 2 (I a0 2)) a0 3)) o 4 ((mm_u (mm_u I o 2 (I a0 2)) o 3 ((mm_u I o 2 (I a0 2)) a0 3)) a0 4)) a0 5)) o 9 ((mm_u (mm_u (mm_u (mm_u I o 2 (I a0 2)) o 3 ((mm_u I o 2 (I a0 2)) a0 3)) o 4 ((mm_u (mm_u I o 2 (I a0 2)) o 3 ((mm_u I o 2 (I a0 2)) a0 3)) a0 4)) o 5 ((mm_u (mm_u (mm_u I o 2 (I a0 2)) o 3 ((mm_u I o 2 (I a0 2)) a0 3)) o 4 ((mm_u (mm_u I o 2 (I a0 2)) o 3 ((mm_u I o 2 (I a0 2)) a0 3)) a0 4)) a0 5)) a0 9)) a0 10)) (a0 + 1)) ((mm_u (mm_u (mm_u (mm_u (mm_u (mm_u I o 2 (I a0 2)) o 3 ((mm_u I o 2 (I a0 2)) a0 3)) o 4 ((mm_u (mm_u I o 2 (I a0 2)) o 3 ((mm_u I o 2 (I a0 2)) a0 3)) a0 4)) o 5 ((mm_u (mm_u (mm_u I o 2 (I a0 2)) o 3 ((mm_u I o 2 (I a0 2)) a0 3)) o 4 ((mm_u (mm_u I o 2 (I a0 2)) o 3 ((mm_u I o 2 (I a0 2)) a0 3)) a0 4)) a0 5)) o 9 ((mm_u (mm_u (mm_u (mm_u I o 2 (I a0 2)) o 3 ((mm_u I o 2 (I a0 2)) a0 3)) o 4 ((mm_u (mm_u I o 2 (I a0 2)) o 3 ((mm_u I o 2 (I a0 2)) a0 3)) a0 4)) o 5 ((mm_u (mm_u (mm_u I o 2 (I a0 2)) o 3 ((mm_u I o 2 (I a0 2)) a0 3)) o 4 ((mm_u (mm_u I o 2 (I a0 2)) o 3 ((mm_u I o 2 (I a0 2)) a0 3)) a0 4)) a0 5)) a0 9)) o 10 ((mm_u (mm_u (mm_u (mm_u (mm_u I o 2 (I a0 2)) o 3 ((mm_u I o 2 (I a0 2)) a0 3)) o 4 ((mm_u (mm_u I o 2 (I a0 2)) o 3 ((mm_u I o 2 (I a0 2)) a0 3)) a0 4)) o 5 ((mm_u (mm_u (mm_u I o 2 (I a0 2)) o 3 ((mm_u I o 2 (I a0 2)) a0 3)) o 4 ((mm_u (mm_u I o 2 (I a0 2)) o 3 ((mm_u I o 2 (I a0 2)) a0 3)) a0 4)) a0 5)) o 9 ((mm_u (mm_u (mm_u (mm_u I o 2 (I a0 2)) o 3 ((mm_u I o 2 (I a0 2)) a0 3)) o 4 ((mm_u (mm_u I o 2 (I a0 2)) o 3 ((mm_u I o 2 (I a0 2)) a0 3)) a0 4)) o 5 ((mm_u (mm_u (mm_u I o 2 (I a0 2)) o 3 ((mm_u I o 2 (I a0 2)) a0 3)) o 4 ((mm_u (mm_u I o 2 (I a0 2)) o 3 ((mm_u I o 2 (I a0 2)) a0 3)) a0 4)) a0 5)) a0 9)) a0 10)) (o + 1)) ((Int32.ofInt 0)).toNatClampNeg ((Int32.ofInt 0)).toNatClampNeg ((Int32.ofInt 60)).toNatClampNeg else (mm_u (mm_u (mm_u (mm_u (mm_u (mm_u I o 2 (I a0 2)) o 3 ((mm_u I o 2 (I a0 2)) a0 3)) o 4 ((mm_u (mm_u I o 2 (I a0 2)) o 3 ((mm_u I o 2 (I a0 2)) a0 3)) a0 4)) o 5 ((mm_u (mm_u (mm_u I o 2 (I a0 2)) o 3 ((mm_u I o 2 (I a0 2)) a0 3)) o 4 ((mm_u (mm_u I o 2 (I a0 2)) o 3 ((mm_u I o 2 (I a0 2)) a0 3)) a0 4)) a0 5)) o 9 ((mm_u (mm_u (mm_u (mm_u I o 2 (I a0 2)) o 3 ((mm_u I o 2 (I a0 2)) a0 3)) o 4 ((mm_u (mm_u I o 2 (I a0 2)) o 3 ((mm_u I o 2 (I a0 2)) a0 3)) a0 4)) o 5 ((mm_u (mm_u (mm_u I o 2 (I a0 2)) o 3 ((mm_u I o 2 (I a0 2)) a0 3)) o 4 ((mm_u (mm_u I o 2 (I a0 2)) o 3 ((mm_u I o 2 (I a0 2)) a0 3)) a0 4)) a0 5)) a0 9)) o 10 ((mm_u (mm_u (mm_u (mm_u (mm_u I o 2 (I a0 2)) o 3 ((mm_u I o 2 (I a0 2)) a0 3)) o 4 ((mm_u (mm_u I o 2 (I a0 2)) o 3 ((mm_u I o 2 (I a0 2)) a0 3)) a0 4)) o 5 ((mm_u (mm_u (mm_u I o 2 (I a0 2)) o 3 ((mm_u I o 2 (I a0 2)) a0 3)) o 4 ((mm_u (mm_u I o 2 (I a0 2)) o 3 ((mm_u I o 2 (I a0 2)) a0 3)) a0 4)) a0 5)) o 9 ((mm_u (mm_u (mm_u (mm_u I o 2 (I a0 2)) o 3 ((mm_u I o 2 (I a0 2)) a0 3)) o 4 ((mm_u (mm_u I o 2 (I a0 2)) o 3 ((mm_u I o 2 (I a0 2)) a0 3)) a0 4)) o 5 ((mm_u (mm_u (mm_u I o 2 (I a0 2)) o 3 ((mm_u I o 2 (I a0 2)) a0 3)) o 4 ((mm_u (mm_u I o 2 (I a0 2)) o 3 ((mm_u I o 2 (I a0 2)) a0 3)) a0 4)) a0 5)) a0 9)) a0 10)) i_) (a0 + 2)) ((fun i_ => if i_ = (o + 1) then va_cpy ((mm_u (mm_u (mm_u (mm_u (mm_u (mm_u I o 2 (I a0 2)) o 3 ((mm_u I o 2 (I a0 2)) a0 3)) o 4 ((mm_u (mm_u I o 2 (I a0 2)) o 3 ((mm_u I o 2 (I a0 2)) a0 3)) a0 4)) o 5 ((mm_u (mm_u (mm_u I o 2 (I a0 2)) o 3 ((mm_u I o 2 (I a0 2)) a0 3)) o 4 ((mm_u (mm_u I o 2 (I a0 2)) o 3 ((mm_u I o 2 (I a0 2)) a0 3)) a0 4)) a0 5)) o 9 ((mm_u (mm_u (mm_u (mm_u I o 2 (I a0 2)) o 3 ((mm_u I o 2 (I a0 2)) a0 3)) o 4 ((mm_u (mm_u I o 2 (I a0 2)) o 3 ((mm_u I o 2 (I a0 2)) a0 3)) a0 4)) o 5 ((mm_u (mm_u (mm_u I o 2 (I a0 2)) o 3 ((mm_u I o 2 (I a0 2)) a0 3)) o 4 ((mm_u (mm_u I o 2 (I a0 2)) o 3 ((mm_u I o 2 (I a0 2)) a0 3)) a0 4)) a0 5)) a0 9)) o 10 ((mm_u (mm_u (mm_u (mm_u (mm_u I o 2 (I a0 2)) o 3 ((mm_u I o 2 (I a0 2)) a0 3)) o 4 ((mm_u (mm_u I o 2 (I a0 2)) o 3 ((mm_u I o 2 (I a0 2)) a0 3)) a0 4)) o 5 ((mm_u (mm_u (mm_u I o 2 (I a0 2)) o 3 ((mm_u I o 2 (I a0 2)) a0 3)) o 4 ((mm_u (mm_u I o 2 (I a0 2)) o 3 ((mm_u I o 2 (I a0 2)) a0 3)) a0 4)) a0 5)) o 9 ((mm_u (mm_u (mm_u (mm_u I o 2 (I a0 2)) o 3 ((mm_u I o 2 (I a0 2)) a0 3)) o 4 ((mm_u (mm_u I o 2 (I a0 2)) o 3 ((mm_u I o 2 (I a0 2)) a0 3)) a0 4)) o 5 ((mm_u (mm_u (mm_u I o 2 (I a0 2)) o 3 ((mm_u I o 2 (I a0 2)) a0 3)) o 4 ((mm_u (mm_u I o 2 (I a0 2)) o 3 ((mm_u I o 2 (I a0 2)) a0 3)) a0 4)) a0 5)) a0 9)) a0 10)) (a0 + 1)) ((mm_u (mm_u (mm_u (mm_u (mm_u (mm_u I o 2 (I a0 2)) o 3 ((mm_u I o 2 (I a0 2)) a0 3)) o 4 ((mm_u (mm_u I o 2 (I a0 2)) o 3 ((mm_u I o 2 (I a0 2)) a0 3)) a0 4)) o 5 ((mm_u (mm_u (mm_u I o 2 (I a0 2)) o 3 ((mm_u I o 2 (I a0 2)) a0 3)) o 4 ((mm_u (mm_u I o 2 (I a0 2)) o 3 ((mm_u I o 2 (I a0 2)) a0 3)) a0 4)) a0 5)) o 9 ((mm_u (mm_u (mm_u (mm_u I o 2 (I a0 2)) o 3 ((mm_u I o 2 (I a0 2)) a0 3)) o 4 ((mm_u (mm_u I o 2 (I a0 2)) o 3 ((mm_u I o 2 (I a0 2)) a0 3)) a0 4)) o 5 ((mm_u (mm_u (mm_u I o 2 (I a0 2)) o 3 ((mm_u I o 2 (I a0 2)) a0 3)) o 4 ((mm_u (mm_u I o 2 (I a0 2)) o 3 ((mm_u I o 2 (I a0 2)) a0 3)) a0 4)) a0 5)) a0 9)) o 10 ((mm_u (mm_u (mm_u (mm_u (mm_u I o 2 (I a0 2)) o 3 ((mm_u I o 2 (I a0 2)) a0 3)) o 4 ((mm_u (mm_u I o 2 (I a0 2)) o 3 ((mm_u I o 2 (I a0 2)) a0 3)) a0 4)) o 5 ((mm_u (mm_u (mm_u I o 2 (I a0 2)) o 3 ((mm_u I o 2 (I a0 2)) a0 3)) o 4 ((mm_u (mm_u I o 2 (I a0 2)) o 3 ((mm_u I o 2 (I a0 2)) a0 3)) a0 4)) a0 5)) o 9 ((mm_u (mm_u (mm_u (mm_u I o 2 (I a0 2)) o 3 ((mm_u I o 2 (I a0 2)) a0 3)) o 4 ((mm_u (mm_u I o 2 (I a0 2)) o 3 ((mm_u I o 2 (I a0 2)) a0 3)) a0 4)) o 5 ((mm_u (mm_u (mm_u I o 2 (I a0 2)) o 3 ((mm_u I o 2 (I a0 2)) a0 3)) o 4 ((mm_u (mm_u I o 2 (I a0 2)) o 3 ((mm_u I o 2 (I a0 2)) a0 3)) a0 4)) a0 5)) a0 9)) a0 10)) (o + 1)) ((Int32.ofInt 0)).toNatClampNeg ((Int32.ofInt 0)).toNatClampNeg ((Int32.ofInt 60)).toNatClampNeg else (mm_u (mm_u (mm_u (mm_u (mm_u (mm_u I o 2 (I a0 2)) o 3 ((mm_u I o 2 (I a0 2)) a0 3)) o 4 ((mm_u (mm_u I o 2 (I a0 2)) o 3 ((mm_u I o 2 (I a0 2)) a0 3)) a0 4)) o 5 ((mm_u (mm_u (mm_u I o 2 (I a0 2)) o 3 ((mm_u I o 2 (I a0 2)) a0 3)) o 4 ((mm_u (mm_u I o 2 (I a0 2)) o 3 ((mm_u I o 2 (I a0 2)) a0 3)) a0 4)) a0 5)) o 9 ((mm_u (mm_u (mm_u (mm_u I o 2 (I a0 2)) o 3 ((mm_u I o 2 (I a0 2)) a0 3)) o 4 ((mm_u (mm_u I o 2 (I a0 2)) o 3 ((mm_u I o 2 (I a0 2)) a0 3)) a0 4)) o 5 ((mm_u (mm_u (mm_u I o 2 (I a0 2)) o 3 ((mm_u I o 2 (I a0 2)) a0 3)) o 4 ((mm_u (mm_u I o 2 (I a0 2)) o 3 ((mm_u I o 2 (I a0 2)) a0 3)) a0 4)) a0 5)) a0 9)) o 10 ((mm_u (mm_u (mm_u (mm_u (mm_u I o 2 (I a0 2)) o 3 ((mm_u I o 2 (I a0 2)) a0 3)) o 4 ((mm_u (mm_u I o 2 (I a0 2)) o 3 ((mm_u I o 2 (I a0 2)) a0 3)) a0 4)) o 5 ((mm_u (mm_u (mm_u I o 2 (I a0 2)) o 3 ((mm_u I o 2 (I a0 2)) a0 3)) o 4 ((mm_u (mm_u I o 2 (I a0 2)) o 3 ((mm_u I o 2 (I a0 2)) a0 3)) a0 4)) a0 5)) o 9 ((mm_u (mm_u (mm_u (mm_u I o 2 (I a0 2)) o 3 ((mm_u I o 2 (I a0 2)) a0 3)) o 4 ((mm_u (mm_u I o 2 (I a0 2)) o 3 ((mm_u I o 2 (I a0 2)) a0 3)) a0 4)) o 5 ((mm_u (mm_u (mm_u I o 2 (I a0 2)) o 3 ((mm_u I o 2 (I a0 2)) a0 3)) o 4 ((mm_u (mm_u I o 2 (I a0 2)) o 3 ((mm_u I o 2 (I a0 2)) a0 3)) a0 4)) a0 5)) a0 9)) a0 10)) i_) (o + 2)) ((Int32.ofInt 0)).toNatClampNeg ((Int32.ofInt 0)).toNatClampNeg ((Int32.ofInt 60)).toNatClampNeg else (fun i_ => if i_ = (o + 1) then va_cpy ((mm_u (mm_u (mm_u (mm_u (mm_u (mm_u I o 2 (I a0 2)) o 3 ((mm_u I o 2 (I a0 2)) a0 3)) o 4 ((mm_u (mm_u I o 2 (I a0 2)) o 3 ((mm_u I o 2 (I a0 2)) a0 3)) a0 4)) o 5 ((mm_u (mm_u (mm_u I o 2 (I a0 2)) o 3 ((mm_u I o 2 (I a0 2)) a0 3)) o 4 ((mm_u (mm_u I o 2 (I a0 2)) o 3 ((mm_u I o 2 (I a0 2)) a0 3)) a0 4)) a0 5)) o 9 ((mm_u (mm_u (mm_u (mm_u I o 2 (I a0 2)) o 3 ((mm_u I o 2 (I a0 2)) a0 3)) o 4 ((mm_u (mm_u I o 2 (I a0 2)) o 3 ((mm_u I o 2 (I a0 2)) a0 3)) a0 4)) o 5 ((mm_u (mm_u (mm_u I o 2 (I a0 2)) o 3 ((mm_u I o 2 (I a0 2)) a0 3)) o 4 ((mm_u (mm_u I o 2 (I a0 2)) o 3 ((mm_u I o 2 (I a0 2)) a0 3)) a0 4)) a0 5)) a0 9)) o 10 ((mm_u (mm_u (mm_u (mm_u (mm_u I o 2 (I a0 2)) o 3 ((mm_u I o 2 (I a0 2)) a0 3)) o 4 ((mm_u (mm_u I o 2 (I a0 2)) o 3 ((mm_u I o 2 (I a0 2)) a0 3)) a0 4)) o 5 ((mm_u (mm_u (mm_u I o 2 (I a0 2)) o 3 ((mm_u I o 2 (I a0 2)) a0 3)) o 4 ((mm_u (mm_u I o 2 (I a0 2)) o 3 ((mm_u I o 2 (I a0 2)) a0 3)) a0 4)) a0 5)) o 9 ((mm_u (mm_u (mm_u (mm_u I o 2 (I a0 2)) o 3 ((mm_u I o 2 (I a0 2)) a0 3)) o 4 ((mm_u (mm_u I o 2 (I a0 2)) o 3 ((mm_u I o 2 (I a0 2)) a0 3)) a0 4)) o 5 ((mm_u (mm_u (mm_u I o 2 (I a0 2)) o 3 ((mm_u I o 2 (I a0 2)) a0 3)) o 4 ((mm_u (mm_u I o 2 (I a0 2)) o 3 ((mm_u I o 2 (I a0 2)) a0 3)) a0 4)) a0 5)) a0 9)) a0 10)) (a0 + 1)) ((mm_u (mm_u (mm_u (mm_u (mm_u (mm_u I o 2 (I a0 2)) o 3 ((mm_u I o 2 (I a0 2)) a0 3)) o 4 ((mm_u (mm_u I o 2 (I a0 2)) o 3 ((mm_u I o 2 (I a0 2)) a0 3)) a0 4)) o 5 ((mm_u (mm_u (mm_u I o 2 (I a0 2)) o 3 ((mm_u I o 2 (I a0 2)) a0 3)) o 4 ((mm_u (mm_u I o 2 (I a0 2)) o 3 ((mm_u I o 2 (I a0 2)) a0 3)) a0 4)) a0 5)) o 9 ((mm_u (mm_u (mm_u (mm_u I o 2 (I a0 2)) o 3 ((mm_u I o 2 (I a0 2)) a0 3)) o 4 ((mm_u (mm_u I o 2 (I a0 2)) o 3 ((mm_u I o 2 (I a0 2)) a0 3)) a0 4)) o 5 ((mm_u (mm_u (mm_u I o 2 (I a0 2)) o 3 ((mm_u I o 2 (I a0 2)) a0 3)) o 4 ((mm_u (mm_u I o 2 (I a0 2)) o 3 ((mm_u I o 2 (I a0 2)) a0 3)) a0 4)) a0 5)) a0 9)) o 10 ((mm_u (mm_u (mm_u (mm_u (mm_u I o 2 (I a0 2)) o 3 ((mm_u I o 2 (I a0 2)) a0 3)) o 4 ((mm_u (mm_u I o 2 (I a0 2)) o 3 ((mm_u I o 2 (I a0 2)) a0 3)) a0 4)) o 5 ((mm_u (mm_u (mm_u I o 2 (I a0 2)) o 3 ((mm_u I o 2 (I a0 2)) a0 3)) o 4 ((mm_u (mm_u I o 2 (I a0 2)) o 3 ((mm_u I o 2 (I a0 2)) a0 3)) a0 4)) a0 5)) o 9 ((mm_u (mm_u (mm_u (mm_u I o 2 (I a0 2)) o 3 ((mm_u I o 2 (I a0 2)) a0 3)) o 4 ((mm_u (mm_u I o 2 (I a0 2)) o 3 ((mm_u I o 2 (I a0 2)) a0 3)) a0 4)) o 5 ((mm_u (mm_u (mm_u I o 2 (I a0 2)) o 3 ((mm_u I o 2 (I a0 2)) a0 3)) o 4 ((mm_u (mm_u I o 2 (I a0 2)) o 3 ((mm_u I o 2 (I a0 2)) a0 3)) a0 4)) a0 5)) a0 9)) a0 10)) (o + 1)) ((Int32.ofInt 0)).toNatClampNeg ((Int32.ofInt 0)).toNatClampNeg ((Int32.ofInt 60)).toNatClampNeg else (mm_u (mm_u (mm_u (mm_u (mm_u (mm_u I o 2 (I a0 2)) o 3 ((mm_u I o 2 (I a0 2)) a0 3)) o 4 ((mm_u (mm_u I o 2 (I a0 2)) o 3 ((mm_u I o 2 (I a0 2)) a0 3)) a0 4)) o 5 ((mm_u (mm_u (mm_u I o 2 (I a0 2)) o 3 ((mm_u I o 2 (I a0 2)) a0 3)) o 4 ((mm_u (mm_u I o 2 (I a0 2)) o 3 ((mm_u I o 2 (I a0 2)) a0 3)) a0 4)) a0 5)) o 9 ((mm_u (mm_u (mm_u (mm_u I o 2 (I a0 2)) o 3 ((mm_u I o 2 (I a0 2)) a0 3)) o 4 ((mm_u (mm_u I o 2 (I a0 2)) o 3 ((mm_u I o 2 (I a0 2)) a0 3)) a0 4)) o 5 ((mm_u (mm_u (mm_u I o 2 (I a0 2)) o 3 ((mm_u I o 2 (I a0 2)) a0 3)) o 4 ((mm_u (mm_u I o 2 (I a0 2)) o 3 ((mm_u I o 2 (I a0 2)) a0 3)) a0 4)) a0 5)) a0 9)) o 10 ((mm_u (mm_u (mm_u (mm_u (mm_u I o 2 (I a0 2)) o 3 ((mm_u I o 2 (I a0 2)) a0 3)) o 4 ((mm_u (mm_u I o 2 (I a0 2)) o 3 ((mm_u I o 2 (I a0 2)) a0 3)) a0 4)) o 5 ((mm_u (mm_u (mm_u I o 2 (I a0 2)) o 3 ((mm_u I o 2 (I a0 2)) a0 3)) o 4 ((mm_u (mm_u I o 2 (I a0 2)) o 3 ((mm_u I o 2 (I a0 2)) a0 3)) a0 4)) a0 5)) o 9 ((mm_u (mm_u (mm_u (mm_u I o 2 (I a0 2)) o 3 ((mm_u I o 2 (I a0 2)) a0 3)) o 4 ((mm_u (mm_u I o 2 (I a0 2)) o 3 ((mm_u I o 2 (I a0 2)) a0 3)) a0 4)) o 5 ((mm_u (mm_u (mm_u I o 2 (I a0 2)) o 3 ((mm_u I o 2 (I a0 2)) a0 3)) o 4 ((mm_u (mm_u I o 2 (I a0 2)) o 3 ((mm_u I o 2 (I a0 2)) a0 3)) a0 4)) a0 5)) a0 9)) a0 10)) i_) i_) (o + 3)) ((Int32.ofInt 0)).toNatClampNeg ((Int32.ofInt 0)).toNatClampNeg ((Int32.ofInt 60)).toNatClampNeg else (fun i_ => if i_ = (o + 2) then va_cpy ((fun i_ => if i_ = (o + 1) then va_cpy ((mm_u (mm_u (mm_u (mm_u (mm_u (mm_u I o 2 (I a0 2)) o 3 ((mm_u I o 2 (I a0 2)) a0 3)) o 4 ((mm_u (mm_u I o 2 (I a0 2)) o 3 ((mm_u I o 2 (I a0 2)) a0 3)) a0 4)) o 5 ((mm_u (mm_u (mm_u I o 2 (I a0 2)) o 3 ((mm_u I o 2 (I a0 2)) a0 3)) o 4 ((mm_u (mm_u I o 2 (I a0 2)) o 3 ((mm_u I o 2 (I a0 2)) a0 3)) a0 4)) a0 5)) o 9 ((mm_u (mm_u (mm_u (mm_u I o 2 (I a0 2)) o 3 ((mm_u I o 2 (I a0 2)) a0 3)) o 4 ((mm_u (mm_u I o 2 (I a0 2)) o 3 ((mm_u I o 2 (I a0 2)) a0 3)) a0 4)) o 5 ((mm_u (mm_u (mm_u I o 2 (I a0 2)) o 3 ((mm_u I o 2 (I a0 2)) a0 3)) o 4 ((mm_u (mm_u I o 2 (I a0 2)) o 3 ((mm_u I o 2 (I a0 2)) a0 3)) a0 4)) a0 5)) a0 9)) o 10 ((mm_u (mm_u (mm_u (mm_u (mm_u I o 2 (I a0 2)) o 3 ((mm_u I o 2 (I a0 2)) a0 3)) o 4 ((mm_u (mm_u I o 2 (I a0 2)) o 3 ((mm_u I o 2 (I a0 2)) a0 3)) a0 4)) o 5 ((mm_u (mm_u (mm_u I o 2 (I a0 2)) o 3 ((mm_u I o 2 (I a0 2)) a0 3)) o 4 ((mm_u (mm_u I o 2 (I a0 2)) o 3 ((mm_u I o 2 (I a0 2)) a0 3)) a0 4)) a0 5)) o 9 ((mm_u (mm_u (mm_u (mm_u I o 2 (I a0 2)) o 3 ((mm_u I o 2 (I a0 2)) a0 3)) o 4 ((mm_u (mm_u I o 2 (I a0 2)) o 3 ((mm_u I o 2 (I a0 2)) a0 3)) a0 4)) o 5 ((mm_u (mm_u (mm_u I o 2 (I a0 2)) o 3 ((mm_u I o 2 (I a0 2)) a0 3)) o 4 ((mm_u (mm_u I o 2 (I a0 2)) o 3 ((mm_u I o 2 (I a0 2)) a0 3)) a0 4)) a0 5)) a0 9)) a0 10)) (a0 + 1)) ((mm_u (mm_u (mm_u (mm_u (mm_u (mm_u I o 2 (I a0 2)) o 3 ((mm_u I o 2 (I a0 2)) a0 3)) o 4 ((mm_u (mm_u I o 2 (I a0 2)) o 3 ((mm_u I o 2 (I a0 2)) a0 3)) a0 4)) o 5 ((mm_u (mm_u (mm_u I o 2 (I a0 2)) o 3 ((mm_u I o 2 (I a0 2)) a0 3)) o 4 ((mm_u (mm_u I o 2 (I a0 2)) o 3 ((mm_u I o 2 (I a0 2)) a0 3)) a0 4)) a0 5)) o 9 ((mm_u (mm_u (mm_u (mm_u I o 2 (I a0 2)) o 3 ((mm_u I o 2 (I a0 2)) a0 3)) o 4 ((mm_u (mm_u I o 2 (I a0 2)) o 3 ((mm_u I o 2 (I a0 2)) a0 3)) a0 4)) o 5 ((mm_u (mm_u (mm_u I o 2 (I a0 2)) o 3 ((mm_u I o 2 (I a0 2)) a0 3)) o 4 ((mm_u (mm_u I o 2 (I a0 2)) o 3 ((mm_u I o 2 (I a0 2)) a0 3)) a0 4)) a0 5)) a0 9)) o 10 ((mm_u (mm_u (mm_u (mm_u (mm_u I o 2 (I a0 2)) o 3 ((mm_u I o 2 (I a0 2)) a0 3)) o 4 ((mm_u (mm_u I o 2 (I a0 2)) o 3 ((mm_u I o 2 (I a0 2)) a0 3)) a0 4)) o 5 ((mm_u (mm_u (mm_u I o 2 (I a0 2)) o 3 ((mm_u I o 2 (I a0 2)) a0 3)) o 4 ((mm_u (mm_u I o 2 (I a0 2)) o 3 ((mm_u I o 2 (I a0 2)) a0 3)) a0 4)) a0 5)) o 9 ((mm_u (mm_u (mm_u (mm_u I o 2 (I a0 2)) o 3 ((mm_u I o 2 (I a0 2)) a0 3)) o 4 ((mm_u (mm_u I o 2 (I a0 2)) o 3 ((mm_u I o 2 (I a0 2)) a0 3)) a0 4)) o 5 ((mm_u (mm_u (mm_u I o 2 (I a0 2)) o 3 ((mm_u I o 2 (I a0 2)) a0 3)) o 4 ((mm_u (mm_u I o 2 (I a0 2)) o 3 ((mm_u I o 2 (I a0 2)) a0 3)) a0 4)) a0 5)) a0 9)) a0 10)) (o + 1)) ((Int32.ofInt 0)).toNatClampNeg ((Int32.ofInt 0)).toNatClampNeg ((Int32.ofInt 60)).toNatClampNeg else (mm_u (mm_u (mm_u (mm_u (mm_u (mm_u I o 2 (I a0 2)) o 3 ((mm_u I o 2 (I a0 2)) a0 3)) o 4 ((mm_u (mm_u I o 2 (I a0 2)) o 3 ((mm_u I o 2 (I a0 2)) a0 3)) a0 4)) o 5 ((mm_u (mm_u (mm_u I o 2 (I a0 2)) o 3 ((mm_u I o 2 (I a0 2)) a0 3)) o 4 ((mm_u (mm_u I o 2 (I a0 2)) o 3 ((mm_u I o 2 (I a0 2)) a0 3)) a0 4)) a0 5)) o 9 ((mm_u (mm_u (mm_u (mm_u I o 2 (I a0 2)) o 3 ((mm_u I o 2 (I a0 2)) a0 3)) o 4 ((mm_u (mm_u I o 2 (I a0 2)) o 3 ((mm_u I o 2 (I a0 2)) a0 3)) a0 4)) o 5 ((mm_u (mm_u (mm_u I o 2 (I a0 2)) o 3 ((mm_u I o 2 (I a0 2)) a0 3)) o 4 ((mm_u (mm_u I o 2 (I a0 2)) o 3 ((mm_u I o 2 (I a0 2)) a0 3)) a0 4)) a0 5)) a0 9)) o 10 ((mm_u (mm_u (mm_u (mm_u (mm_u I o 2 (I a0 2)) o 3 ((mm_u I o 2 (I a0 2)) a0 3)) o 4 ((mm_u (mm_u I o 2 (I a0 2)) o 3 ((mm_u I o 2 (I a0 2)) a0 3)) a0 4)) o 5 ((mm_u (mm_u (mm_u I o 2 (I a0 2)) o 3 ((mm_u I o 2 (I a0 2)) a0 3)) o 4 ((mm_u (mm_u I o 2 (I a0 2)) o 3 ((mm_u I o 2 (I a0 2)) a0 3)) a0 4)) a0 5)) o 9 ((mm_u (mm_u (mm_u (mm_u I o 2 (I a0 2)) o 3 ((mm_u I o 2 (I a0 2)) a0 3)) o 4 ((mm_u (mm_u I o 2 (I a0 2)) o 3 ((mm_u I o 2 (I a0 2)) a0 3)) a0 4)) o 5 ((mm_u (mm_u (mm_u I o 2 (I a0 2)) o 3 ((mm_u I o 2 (I a0 2)) a0 3)) o 4 ((mm_u (mm_u I o 2 (I a0 2)) o 3 ((mm_u I o 2 (I a0 2)) a0 3)) a0 4)) a0 5)) a0 9)) a0 10)) i_) (a0 + 2)) ((fun i_ => if i_ = (o + 1) then va_cpy ((mm_u (mm_u (mm_u (mm_u (mm_u (mm_u I o 2 (I a0 2)) o 3 ((mm_u I o 2 (I a0 2)) a0 3)) o 4 ((mm_u (mm_u I o 2 (I a0 2)) o 3 ((mm_u I o 2 (I a0 2)) a0 3)) a0 4)) o 5 ((mm_u (mm_u (mm_u I o 2 (I a0 2)) o 3 ((mm_u I o 2 (I a0 2)) a0 3)) o 4 ((mm_u (mm_u I o 2 (I a0 2)) o 3 ((mm_u I o 2 (I a0 2)) a0 3)) a0 4)) a0 5)) o 9 ((mm_u (mm_u (mm_u (mm_u I o 2 (I a0 2)) o 3 ((mm_u I o 2 (I a0 2)) a0 3)) o 4 ((mm_u (mm_u I o 2 (I a0 2)) o 3 ((mm_u I o 2 (I a0 2)) a0 3)) a0 4)) o 5 ((mm_u (mm_u (mm_u I o 2 (I a0 2)) o 3 ((mm_u I o 2 (I a0 2)) a0 3)) o 4 ((mm_u (mm_u I o 2 (I a0 2)) o 3 ((mm_u I o 2 (I a0 2)) a0 3)) a0 4)) a0 5)) a0 9)) o 10 ((mm_u (mm_u (mm_u (mm_u (mm_u I o 2 (I a0 2)) o 3 ((mm_u I o 2 (I a0 2)) a0 3)) o 4 ((mm_u (mm_u I o 2 (I a0 2)) o 3 ((mm_u I o 2 (I a0 2)) a0 3)) a0 4)) o 5 ((mm_u (mm_u (mm_u I o 2 (I a0 2)) o 3 ((mm_u I o 2 (I a0 2)) a0 3)) o 4 ((mm_u (mm_u I o 2 (I a0 2)) o 3 ((mm_u I o 2 (I a0 2)) a0 3)) a0 4)) a0 5)) o 9 ((mm_u (mm_u (mm_u (mm_u I o 2 (I a0 2)) o 3 ((mm_u I o 2 (I a0 2)) a0 3)) o 4 ((mm_u (mm_u I o 2 (I a0 2)) o 3 ((mm_u I o 2 (I a0 2)) a0 3)) a0 4)) o 5 ((mm_u (mm_u (mm_u I o 2 (I a0 2)) o 3 ((mm_u I o 2 (I a0 2)) a0 3)) o 4 ((mm_u (mm_u I o 2 (I a0 2)) o 3 ((mm_u I o 2 (I a0 2)) a0 3)) a0 4)) a0 5)) a0 9)) a0 10)) (a0 + 1)) ((mm_u (mm_u (mm_u (mm_u (mm_u (mm_u I o 2 (I a0 2)) o 3 ((mm_u I o 2 (I a0 2)) a0 3)) o 4 ((mm_u (mm_u I o 2 (I a0 2)) o 3 ((mm_u I o 2 (I a0 2)) a0 3)) a0 4)) o 5 ((mm_u (mm_u (mm_u I o 2 (I a0 2)) o 3 ((mm_u I o 2 (I a0 2)) a0 3)) o 4 ((mm_u (mm_u I o 2 (I a0 2)) o 3 ((mm_u I o 2 (I a0 2)) a0 3)) a0 4)) a0 5)) o 9 ((mm_u (mm_u (mm_u (mm_u I o 2 (I a0 2)) o 3 ((mm_u I o 2 (I a0 2)) a0 3)) o 4 ((mm_u (mm_u I o 2 (I a0 2)) o 3 ((mm_u I o 2 (I a0 2)) a0 3)) a0 4)) o 5 ((mm_u (mm_u (mm_u I o 2 (I a0 2)) o 3 ((mm_u I o 2 (I a0 2)) a0 3)) o 4 ((mm_u (mm_u I o 2 (I a0 2)) o 3 ((mm_u I o 2 (I a0 2)) a0 3)) a0 4)) a0 5)) a0 9)) o 10 ((mm_u (mm_u (mm_u (mm_u (mm_u I o 2 (I a0 2)) o 3 ((mm_u I o 2 (I a0 2)) a0 3)) o 4 ((mm_u (mm_u I o 2 (I a0 2)) o 3 ((mm_u I o 2 (I a0 2)) a0 3)) a0 4)) o 5 ((mm_u (mm_u (mm_u I o 2 (I a0 2)) o 3 ((mm_u I o 2 (I a0 2)) a0 3)) o 4 ((mm_u (mm_u I o 2 (I a0 2)) o 3 ((mm_u I o 2 (I a0 2)) a0 3)) a0 4)) a0 5)) o 9 ((mm_u (mm_u (mm_u (mm_u I o 2 (I a0 2)) o 3 ((mm_u I o 2 (I a0 2)) a0 3)) o 4 ((mm_u (mm_u I o 2 (I a0 2)) o 3 ((mm_u I o 2 (I a0 2)) a0 3)) a0 4)) o 5 ((mm_u (mm_u (mm_u I o 2 (I a0 2)) o 3 ((mm_u I o 2 (I a0 2)) a0 3)) o 4 ((mm_u (mm_u I o 2 (I a0 2)) o 3 ((mm_u I o 2 (I a0 2)) a0 3)) a0 4)) a0 5)) a0 9)) a0 10)) (o + 1)) ((Int32.ofInt 0)).toNatClampNeg ((Int32.ofInt 0)).toNatClampNeg ((Int32.ofInt 60)).toNatClampNeg else (mm_u (mm_u (mm_u (mm_u (mm_u (mm_u I o 2 (I a0 2)) o 3 ((mm_u I o 2 (I a0 2)) a0 3)) o 4 ((mm_u (mm_u I o 2 (I a0 2)) o 3 ((mm_u I o 2 (I a0 2)) a0 3)) a0 4)) o 5 ((mm_u (mm_u (mm_u I o 2 (I a0 2)) o 3 ((mm_u I o 2 (I a0 2)) a0 3)) o 4 ((mm_u (mm_u I o 2 (I a0 2)) o 3 ((mm_u I o 2 (I a0 2)) a0 3)) a0 4)) a0 5)) o 9 ((mm_u (mm_u (mm_u (mm_u I o 2 (I a0 2)) o 3 ((mm_u I o 2 (I a0 2)) a0 3)) o 4 ((mm_u (mm_u I o 2 (I a0 2)) o 3 ((mm_u I o 2 (I a0 2)) a0 3)) a0 4)) o 5 ((mm_u (mm_u (mm_u I o 2 (I a0 2)) o 3 ((mm_u I o 2 (I a0 2)) a0 3)) o 4 ((mm_u (mm_u I o 2 (I a0 2)) o 3 ((mm_u I o 2 (I a0 2)) a0 3)) a0 4)) a0 5)) a0 9)) o 10 ((mm_u (mm_u (mm_u (mm_u (mm_u I o 2 (I a0 2)) o 3 ((mm_u I o 2 (I a0 2)) a0 3)) o 4 ((mm_u (mm_u I o 2 (I a0 2)) o 3 ((mm_u I o 2 (I a0 2)) a0 3)) a0 4)) o 5 ((mm_u (mm_u (mm_u I o 2 (I a0 2)) o 3 ((mm_u I o 2 (I a0 2)) a0 3)) o 4 ((mm_u (mm_u I o 2 (I a0 2)) o 3 ((mm_u I o 2 (I a0 2)) a0 3)) a0 4)) a0 5)) o 9 ((mm_u (mm_u (mm_u (mm_u I o 2 (I a0 2)) o 3 ((mm_u I o 2 (I a0 2)) a0 3)) o 4 ((mm_u (mm_u I o 2 (I a0 2)) o 3 ((mm_u I o 2 (I a0 2)) a0 3)) a0 4)) o 5 ((mm_u (mm_u (mm_u I o 2 (I a0 2)) o 3 ((mm_u I o 2 (I a0 2)) a0 3)) o 4 ((mm_u (mm_u I o 2 (I a0 2)) o 3 ((mm_u I o 2 (I a0 2)) a0 3)) a0 4)) a0 5)) a0 9)) a0 10)) i_) (o + 2)) ((Int32.ofInt 0)).toNatClampNeg ((Int32.ofInt 0)).toNatClampNeg ((Int32.ofInt 60)).toNatClampNeg else (fun i_ => if i_ = (o + 1) then va_cpy ((mm_u (mm_u (mm_u (mm_u (mm_u (mm_u I o 2 (I a0 2)) o 3 ((mm_u I o 2 (I a0 2)) a0 3)) o 4 ((mm_u (mm_u I o 2 (I a0 2)) o 3 ((mm_u I o 2 (I a0 2)) a0 3)) a0 4)) o 5 ((mm_u (mm_u (mm_u I o 2 (I a0 2)) o 3 ((mm_u I o 2 (I a0 2)) a0 3)) o 4 ((mm_u (mm_u I o 2 (I a0 2)) o 3 ((mm_u I o 2 (I a0 2)) a0 3)) a0 4)) a0 5)) o 9 ((mm_u (mm_u (mm_u (mm_u I o 2 (I a0 2)) o 3 ((mm_u I o 2 (I a0 2)) a0 3)) o 4 ((mm_u (mm_u I o 2 (I a0 2)) o 3 ((mm_u I o 2 (I a0 2)) a0 3)) a0 4)) o 5 ((mm_u (mm_u (mm_u I o 2 (I a0 2)) o 3 ((mm_u I o 2 (I a0 2)) a0 3)) o 4 ((mm_u (mm_u I o 2 (I a0 2)) o 3 ((mm_u I o 2 (I a0 2)) a0 3)) a0 4)) a0 5)) a0 9)) o 10 ((mm_u (mm_u (mm_u (mm_u (mm_u I o 2 (I a0 2)) o 3 ((mm_u I o 2 (I a0 2)) a0 3)) o 4 ((mm_u (mm_u I o 2 (I a0 2)) o 3 ((mm_u I o 2 (I a0 2)) a0 3)) a0 4)) o 5 ((mm_u (mm_u (mm_u I o 2 (I a0 2)) o 3 ((mm_u I o 2 (I a0 2)) a0 3)) o 4 ((mm_u (mm_u I o 2 (I a0 2)) o 3 ((mm_u I o 2 (I a0 2)) a0 3)) a0 4)) a0 5)) o 9 ((mm_u (mm_u (mm_u (mm_u I o 2 (I a0 2)) o 3 ((mm_u I o 2 (I a0 2)) a0 3)) o 4 ((mm_u (mm_u I o 2 (I a0 2)) o 3 ((mm_u I o 2 (I a0 2)) a0 3)) a0 4)) o 5 ((mm_u (mm_u (mm_u I o 2 (I a0 2)) o 3 ((mm_u I o 2 (I a0 2)) a0 3)) o 4 ((mm_u (mm_u I o 2 (I a0 2)) o 3 ((mm_u I o 2 (I a0 2)) a0 3)) a0 4)) a0 5)) a0 9)) a0 10)) (a0 + 1)) ((mm_u (mm_u (mm_u (mm_u (mm_u (mm_u I o 2 (I a0 2)) o 3 ((mm_u I o 2 (I a0 2)) a0 3)) o 4 ((mm_u (mm_u I o 2 (I a0 2)) o 3 ((mm_u I o 2 (I a0 2)) a0 3)) a0 4)) o 5 ((mm_u (mm_u (mm_u I o 2 (I a0 2)) o 3 ((mm_u I o 2 (I a0 2)) a0 3)) o 4 ((mm_u (mm_u I o 2 (I a0 2)) o 3 ((mm_u I o 2 (I a0 2)) a0 3)) a0 4)) a0 5)) o 9 ((mm_u (mm_u (mm_u (mm_u I o 2 (I a0 2)) o 3 ((mm_u I o 2 (I a0 2)) a0 3)) o 4 ((mm_u (mm_u I o 2 (I a0 2)) o 3 ((mm_u I o 2 (I a0 2)) a0 3)) a0 4)) o 5 ((mm_u (mm_u (mm_u I o 2 (I a0 2)) o 3 ((mm_u I o 2 (I a0 2)) a0 3)) o 4 ((mm_u (mm_u I o 2 (I a0 2)) o 3 ((mm_u I o 2 (I a0 2)) a0 3)) a0 4)) a0 5)) a0 9)) o 10 ((mm_u (mm_u (mm_u (mm_u (mm_u I o 2 (I a0 2)) o 3 ((mm_u I o 2 (I a0 2)) a0 3)) o 4 ((mm_u (mm_u I o 2 (I a0 2)) o 3 ((mm_u I o 2 (I a0 2)) a0 3)) a0 4)) o 5 ((mm_u (mm_u (mm_u I o 2 (I a0 2)) o 3 ((mm_u I o 2 (I a0 2)) a0 3)) o 4 ((mm_u (mm_u I o 2 (I a0 2)) o 3 ((mm_u I o 2 (I a0 2)) a0 3)) a0 4)) a0 5)) o 9 ((mm_u (mm_u (mm_u (mm_u I o 2 (I a0 2)) o 3 ((mm_u I o 2 (I a0 2)) a0 3)) o 4 ((mm_u (mm_u I o 2 (I a0 2)) o 3 ((mm_u I o 2 (I a0 2)) a0 3)) a0 4)) o 5 ((mm_u (mm_u (mm_u I o 2 (I a0 2)) o 3 ((mm_u I o 2 (I a0 2)) a0 3)) o 4 ((mm_u (mm_u I o 2 (I a0 2)) o 3 ((mm_u I o 2 (I a0 2)) a0 3)) a0 4)) a0 5)) a0 9)) a0 10)) (o + 1)) ((Int32.ofInt 0)).toNatClampNeg ((Int32.ofInt 0)).toNatClampNeg ((Int32.ofInt 60)).toNatClampNeg else (mm_u (mm_u (mm_u (mm_u (mm_u (mm_u I o 2 (I a0 2)) o 3 ((mm_u I o 2 (I a0 2)) a0 3)) o 4 ((mm_u (mm_u I o 2 (I a0 2)) o 3 ((mm_u I o 2 (I a0 2)) a0 3)) a0 4)) o 5 ((mm_u (mm_u (mm_u I o 2 (I a0 2)) o 3 ((mm_u I o 2 (I a0 2)) a0 3)) o 4 ((mm_u (mm_u I o 2 (I a0 2)) o 3 ((mm_u I o 2 (I a0 2)) a0 3)) a0 4)) a0 5)) o 9 ((mm_u (mm_u (mm_u (mm_u I o 2 (I a0 2)) o 3 ((mm_u I o 2 (I a0 2)) a0 3)) o 4 ((mm_u (mm_u I o 2 (I a0 2)) o 3 ((mm_u I o 2 (I a0 2)) a0 3)) a0 4)) o 5 ((mm_u (mm_u (mm_u I o 2 (I a0 2)) o 3 ((mm_u I o 2 (I a0 2)) a0 3)) o 4 ((mm_u (mm_u I o 2 (I a0 2)) o 3 ((mm_u I o 2 (I a0 2)) a0 3)) a0 4)) a0 5)) a0 9)) o 10 ((mm_u (mm_u (mm_u (mm_u (mm_u I o 2 (I a0 2)) o 3 ((mm_u I o 2 (I a0 2)) a0 3)) o 4 ((mm_u (mm_u I o 2 (I a0 2)) o 3 ((mm_u I o 2 (I a0 2)) a0 3)) a0 4)) o 5 ((mm_u (mm_u (mm_u I o 2 (I a0 2)) o 3 ((mm_u I o 2 (I a0 2)) a0 3)) o 4 ((mm_u (mm_u I o 2 (I a0 2)) o 3 ((mm_u I o 2 (I a0 2)) a0 3)) a0 4)) a0 5)) o 9 ((mm_u (mm_u (mm_u (mm_u I o 2 (I a0 2)) o 3 ((mm_u I o 2 (I a0 2)) a0 3)) o 4 ((mm_u (mm_u I o 2 (I a0 2)) o 3 ((mm_u I o 2 (I a0 2)) a0 3)) a0 4)) o 5 ((mm_u (mm_u (mm_u I o 2 (I a0 2)) o 3 ((mm_u I o 2 (I a0 2)) a0 3)) o 4 ((mm_u (mm_u I o 2 (I a0 2)) o 3 ((mm_u I o 2 (I a0 2)) a0 3)) a0 4)) a0 5)) a0 9)) a0 10)) i_) i_) i_) (mm_u J o 1 (J a0 1)))) : mm_s SL xs (d + 1) 14 [.ref o, .ref a0] (hp p s q I J) Q := by
  refine e_X1_copyFrom rfl ?_
  refine hs_L (L2 := [some (.ref o), some (.ref a0)]) rfl ?_
  refine sp_aload_n 1 rfl rfl rfl ?_
  refine sp_aload_n 2 rfl rfl rfl ?_
  refine hq_getJ 5 rfl (kC0 h_a0) rfl ?_
  refine hq_putJ 8 rfl (kC0 h_o) rfl ?_
  refine sp_aload_n 9 rfl rfl rfl ?_
  refine sp_aload_n 10 rfl rfl rfl ?_
  refine hq_getI 13 rfl (kC0 h_a0) rfl ?_
  refine hq_putI 16 rfl (kC0 h_o) rfl ?_
  refine sp_aload_n 17 rfl rfl rfl ?_
  refine sp_aload_n 18 rfl rfl rfl ?_
  refine hq_getI 21 rfl (kC0 h_a0) rfl ?_
  refine hq_putI 24 rfl (kC0 h_o) rfl ?_
  refine sp_aload_n 25 rfl rfl rfl ?_
  refine sp_aload_n 26 rfl rfl rfl ?_
  refine hq_getI 29 rfl (kC0 h_a0) rfl ?_
  refine hq_putI 32 rfl (kC0 h_o) rfl ?_
  refine sp_aload_n 33 rfl rfl rfl ?_
  refine sp_aload_n 34 rfl rfl rfl ?_
  refine hq_getI 37 rfl (kC0 h_a0) rfl ?_
  refine hq_putI 40 rfl (kC0 h_o) rfl ?_
  refine sp_aload_n 41 rfl rfl rfl ?_
  refine sp_aload_n 42 rfl rfl rfl ?_
  refine hq_getI 45 rfl (kC0 h_a0) rfl ?_
  refine hq_putI 48 rfl (kC0 h_o) rfl ?_
  refine sp_aload_n 49 rfl rfl rfl ?_
  refine sp_aload_n 50 rfl rfl rfl ?_
  refine hq_getI 53 rfl (kC0 h_a0) rfl ?_
  refine hq_putI 56 rfl (kC0 h_o) rfl ?_
  refine sp_aload_n 57 rfl rfl rfl ?_
  refine hq_getR 60 rfl (kC0 h_a0) (rC1 h_a0) rfl ?_
  refine sp_iconst 61 rfl rfl ?_
  refine sp_aload_n 62 rfl rfl rfl ?_
  refine hq_getR 65 rfl (kC0 h_o) (rC1 h_o) rfl ?_
  refine sp_iconst 66 rfl rfl ?_
  refine sp_bipush 68 rfl rfl ?_
  refine sp_I (y := Int32.ofInt 60) rfl ?_
  refine hq_copy 71 rfl (kC1 h_a0) (kC1 h_o) (by decide) (by decide) (by decide) (by decide) (by decide) rfl rfl rfl ?_
  refine sp_aload_n 72 rfl rfl rfl ?_
  refine hq_getR 75 rfl (kC0 h_a0) (rC2 h_a0) rfl ?_
  refine sp_iconst 76 rfl rfl ?_
  refine sp_aload_n 77 rfl rfl rfl ?_
  refine hq_getR 80 rfl (kC0 h_o) (rC2 h_o) rfl ?_
  refine sp_iconst 81 rfl rfl ?_
  refine sp_bipush 83 rfl rfl ?_
  refine sp_I (y := Int32.ofInt 60) rfl ?_
  refine hq_copy 86 rfl (kC2 h_a0) (kC2 h_o) (by decide) (by decide) (by decide) (by decide) (by decide) rfl rfl rfl ?_
  refine sp_aload_n 87 rfl rfl rfl ?_
  refine hq_getR 90 rfl (kC0 h_a0) (rC3 h_a0) rfl ?_
  refine sp_iconst 91 rfl rfl ?_
  refine sp_aload_n 92 rfl rfl rfl ?_
  refine hq_getR 95 rfl (kC0 h_o) (rC3 h_o) rfl ?_
  refine sp_iconst 96 rfl rfl ?_
  refine sp_bipush 98 rfl rfl ?_
  refine sp_I (y := Int32.ofInt 60) rfl ?_
  refine hq_copy 101 rfl (kC3 h_a0) (kC3 h_o) (by decide) (by decide) (by decide) (by decide) (by decide) rfl rfl rfl ?_
  exact st_vret rfl rfl (Nat.le_refl _) (Nat.le_refl _) k
theorem sg_X1_isTurned {SL : Nat} {xs : Nat → Int32} {d : Nat} {p s q : Nat} {Q : Option Value → mm_H → Prop} {o : Nat} {a0 : Nat} {I : Nat → Nat → Int32} {J : Nat → Nat → Int64} (h_a0 : isP a0) (h_o : isC o) (k : (((I a0 3) ≤ Int32.ofInt 0 → Q (some (.int (Int32.ofInt 0))) (hp p s q I J)) ∧ (¬ ((I a0 3) ≤ Int32.ofInt 0) → (¬ (I a0 3) = 0 ∧ (((((I o 2) / (I a0 3)) - ((I o 2) / (I a0 3)) / (Int32.ofInt 2) * (Int32.ofInt 2)) = (Int32.ofInt 1) → Q (some (.int (Int32.ofInt 1))) (hp p s q I J)) ∧ (¬ ((((I o 2) / (I a0 3)) - ((I o 2) / (I a0 3)) / (Int32.ofInt 2) * (Int32.ofInt 2)) = (Int32.ofInt 1)) → Q (some (.int (Int32.ofInt 0))) (hp p s q I J))))))) : mm_s SL xs (d + 1) 17 [.ref o, .ref a0] (hp p s q I J) Q := by
  refine e_X1_isTurned rfl ?_
  refine hs_L (L2 := [some (.ref o), some (.ref a0)]) rfl ?_
  refine sp_aload_n 1 rfl rfl rfl ?_
  refine hq_getI 4 rfl (kP0 h_a0) rfl ?_
  refine sp_if_le 7 rfl rfl (fun q_ => ?_) (fun q_ => ?_)
  · have k := k.1 q_
    refine sp_iconst 27 rfl rfl ?_
    exact st_zret rfl rfl (by decide) (Nat.le_refl _) (Nat.le_refl _) k
  · have k := k.2 q_
    refine sp_aload_n 8 rfl rfl rfl ?_
    refine hq_getI 11 rfl (kC0 h_o) rfl ?_
    refine sp_aload_n 12 rfl rfl rfl ?_
    refine hq_getI 15 rfl (kP0 h_a0) rfl ?_
    have n1_ := k.1
    have k := k.2
    refine sp_idiv 16 rfl n1_ rfl ?_
    refine sp_iconst 17 rfl rfl ?_
    refine sp_irem 18 rfl (by decide) rfl ?_
    refine sp_iconst 19 rfl rfl ?_
    refine sp_ic_ne 22 rfl rfl (fun q_ => ?_) (fun q_ => ?_)
    · have k := k.2 q_
      refine sp_iconst 27 rfl rfl ?_
      exact st_zret rfl rfl (by decide) (Nat.le_refl _) (Nat.le_refl _) k
    · have k := k.1 q_
      refine sp_iconst 23 rfl rfl ?_
      refine sp_goto rfl ?_
      exact st_zret rfl rfl (by decide) (Nat.le_refl _) (Nat.le_refl _) k
theorem sg_X2_add {SL : Nat} {xs : Nat → Int32} {d : Nat} {p s q : Nat} {Q : Option Value → mm_H → Prop} {a0 : Int32} {a1 : Int32} {I : Nat → Nat → Int32} {J : Nat → Nat → Int64}  (k : ((a0 < Int32.ofInt 0 → Q none (hp p s q I J)) ∧ (¬ (a0 < Int32.ofInt 0) → (((Int32.ofInt 60) ≤ a0 → Q none (hp p s q I J)) ∧ (¬ ((Int32.ofInt 60) ≤ a0) → (vp_in a0 60 ∧ Q none (hp p s q (mm_u (mm_u I 32 ((a0).toNatClampNeg) ((I 32 ((a0).toNatClampNeg)) + a1)) 31 1 ((I 31 1) + a1)) J))))))) : mm_s SL xs (d + 1) 26 [.ref 31, .int a0, .int a1] (hp p s q I J) Q := by
  refine e_X2_add rfl ?_
  refine hs_L (L2 := [some (.ref 31), some (.int a0), some (.int a1)]) rfl ?_
  refine sp_iload_n 1 rfl rfl rfl ?_
  refine sp_if_lt 4 rfl rfl (fun q_ => ?_) (fun q_ => ?_)
  · have k := k.1 q_
    exact st_vret rfl rfl (Nat.le_refl _) (Nat.le_refl _) k
  · have k := k.2 q_
    refine sp_iload_n 5 rfl rfl rfl ?_
    refine sp_bipush 7 rfl rfl ?_
    refine sp_I (y := Int32.ofInt 60) rfl ?_
    refine sp_ic_ge 10 rfl rfl (fun q_ => ?_) (fun q_ => ?_)
    · have k := k.1 q_
      exact st_vret rfl rfl (Nat.le_refl _) (Nat.le_refl _) k
    · have k := k.2 q_
      refine sp_aload_n 11 rfl rfl rfl ?_
      refine hq_getR 14 rfl rfl rfl rfl ?_
      refine sp_iload_n 15 rfl rfl rfl ?_
      refine sp_dup2 16 rfl rfl rfl rfl ?_
      have n1_ := k.1
      have k := k.2
      refine hq_iald 17 rfl rfl n1_ rfl ?_
      refine sp_iload_n 18 rfl rfl rfl ?_
      refine sp_iadd 19 rfl rfl ?_
      refine hq_iast 20 rfl rfl n1_ rfl ?_
      refine sp_aload_n 21 rfl rfl rfl ?_
      refine sp_dup 22 rfl rfl rfl ?_
      refine hq_getI 25 rfl rfl rfl ?_
      refine sp_I (y := (I 31 1)) (by simp [mm_u]) ?_
      refine sp_iload_n 26 rfl rfl rfl ?_
      refine sp_iadd 27 rfl rfl ?_
      refine hq_putI 30 rfl rfl rfl ?_
      exact st_vret rfl rfl (Nat.le_refl _) (Nat.le_refl _) k
theorem sg_X2_weightAt {SL : Nat} {xs : Nat → Int32} {d : Nat} {p s q : Nat} {Q : Option Value → mm_H → Prop} {a0 : Int32} {I : Nat → Nat → Int32} {J : Nat → Nat → Int64}  (k : ((a0 < Int32.ofInt 0 → Q (some (.int (Int32.ofInt 0))) (hp p s q I J)) ∧ (¬ (a0 < Int32.ofInt 0) → (((Int32.ofInt 60) ≤ a0 → Q (some (.int (Int32.ofInt 0))) (hp p s q I J)) ∧ (¬ ((Int32.ofInt 60) ≤ a0) → (vp_in a0 60 ∧ Q (some (.int (I 32 ((a0).toNatClampNeg)))) (hp p s q I J))))))) : mm_s SL xs (d + 1) 29 [.ref 31, .int a0] (hp p s q I J) Q := by
  refine e_X2_weightAt rfl ?_
  refine hs_L (L2 := [some (.ref 31), some (.int a0)]) rfl ?_
  refine sp_iload_n 1 rfl rfl rfl ?_
  refine sp_if_lt 4 rfl rfl (fun q_ => ?_) (fun q_ => ?_)
  · have k := k.1 q_
    refine sp_iconst 20 rfl rfl ?_
    exact st_iret rfl rfl (Nat.le_refl _) (Nat.le_refl _) k
  · have k := k.2 q_
    refine sp_iload_n 5 rfl rfl rfl ?_
    refine sp_bipush 7 rfl rfl ?_
    refine sp_I (y := Int32.ofInt 60) rfl ?_
    refine sp_ic_ge 10 rfl rfl (fun q_ => ?_) (fun q_ => ?_)
    · have k := k.1 q_
      refine sp_iconst 20 rfl rfl ?_
      exact st_iret rfl rfl (Nat.le_refl _) (Nat.le_refl _) k
    · have k := k.2 q_
      refine sp_aload_n 11 rfl rfl rfl ?_
      refine hq_getR 14 rfl rfl rfl rfl ?_
      refine sp_iload_n 15 rfl rfl rfl ?_
      have n1_ := k.1
      have k := k.2
      refine hq_iald 16 rfl rfl n1_ rfl ?_
      refine sp_goto rfl ?_
      exact st_iret rfl rfl (Nat.le_refl _) (Nat.le_refl _) k
def w_X3_firstWrong_2 (SL : Nat) (xs : Nat → Int32) (d : Nat) (p s q : Nat) (Q : Option Value → mm_H → Prop) (a0 : Nat) (v2 : Int32) (I : Nat → Nat → Int32) (J : Nat → Nat → Int64) : Prop := mm_w SL xs (mm_s SL xs (d + 0)) mm_am kX3_firstWrong 0 0 (some .int) Q 2 [some (.ref 29), some (.ref a0), some (.int v2)] [] (hp p s q I J) 0 0
theorem sg_X3_firstWrong {SL : Nat} {xs : Nat → Int32} {d : Nat} {p s q : Nat} {Q : Option Value → mm_H → Prop} {a0 : Nat} {I : Nat → Nat → Int32} {J : Nat → Nat → Int64}  (k : w_X3_firstWrong_2 SL xs d p s q Q a0 (Int32.ofInt 0) I J) : mm_s SL xs (d + 1) 34 [.ref 29, .ref a0] (hp p s q I J) Q := by
  refine e_X3_firstWrong rfl ?_
  refine hs_L (L2 := [some (.ref 29), some (.ref a0), none]) rfl ?_
  refine sp_iconst 1 rfl rfl ?_
  refine hs_istore_n 2 (L2 := [some (.ref 29), some (.ref a0), some (.int (Int32.ofInt 0))]) rfl rfl rfl rfl ?_
  exact k
theorem sg_X3_firstWrong_2 {SL : Nat} {xs : Nat → Int32} {d : Nat} {p s q : Nat} {Q : Option Value → mm_H → Prop} {a0 : Nat} {v2 : Int32} {I : Nat → Nat → Int32} {J : Nat → Nat → Int64} (h_a0 : isC a0) (k : (((I 29 1) ≤ v2 → Q (some (.int (Int32.ofInt (-1)))) (hp p s q I J)) ∧ (¬ ((I 29 1) ≤ v2) → (((Int32.ofInt 60) ≤ v2 → Q (some (.int (Int32.ofInt (-1)))) (hp p s q I J)) ∧ (¬ ((Int32.ofInt 60) ≤ v2) → (((I a0 5) ≤ v2 → Q (some (.int v2)) (hp p s q I J)) ∧ (¬ ((I a0 5) ≤ v2) → (vp_in v2 60 ∧ (((I (a0 + 3) ((v2).toNatClampNeg)) = (I 30 ((v2).toNatClampNeg)) → w_X3_firstWrong_2 SL xs d p s q Q a0 (v2 + Int32.ofInt 1) I J) ∧ (¬ ((I (a0 + 3) ((v2).toNatClampNeg)) = (I 30 ((v2).toNatClampNeg))) → Q (some (.int v2)) (hp p s q I J))))))))))) : w_X3_firstWrong_2 SL xs d p s q Q a0 v2 I J := by
  unfold w_X3_firstWrong_2
  refine sp_iload_n 3 rfl rfl rfl ?_
  refine sp_aload_n 4 rfl rfl rfl ?_
  refine hq_getI 7 rfl rfl rfl ?_
  refine sp_ic_ge 10 rfl rfl (fun q_ => ?_) (fun q_ => ?_)
  · have k := k.1 q_
    refine sp_iconst 48 rfl rfl ?_
    exact st_iret rfl rfl (Nat.le_refl _) (Nat.le_refl _) k
  · have k := k.2 q_
    refine sp_iload_n 11 rfl rfl rfl ?_
    refine sp_bipush 13 rfl rfl ?_
    refine sp_I (y := Int32.ofInt 60) rfl ?_
    refine sp_ic_ge 16 rfl rfl (fun q_ => ?_) (fun q_ => ?_)
    · have k := k.1 q_
      refine sp_iconst 48 rfl rfl ?_
      exact st_iret rfl rfl (Nat.le_refl _) (Nat.le_refl _) k
    · have k := k.2 q_
      refine sp_iload_n 17 rfl rfl rfl ?_
      refine sp_aload_n 18 rfl rfl rfl ?_
      refine hq_getI 21 rfl (kC0 h_a0) rfl ?_
      refine sp_ic_ge 24 rfl rfl (fun q_ => ?_) (fun q_ => ?_)
      · have k := k.1 q_
        refine sp_iload_n 40 rfl rfl rfl ?_
        exact st_iret rfl rfl (Nat.le_refl _) (Nat.le_refl _) k
      · have k := k.2 q_
        refine sp_aload_n 25 rfl rfl rfl ?_
        refine hq_getR 28 rfl (kC0 h_a0) (rC3 h_a0) rfl ?_
        refine sp_iload_n 29 rfl rfl rfl ?_
        have n1_ := k.1
        have k := k.2
        refine hq_iald 30 rfl (kC3 h_a0) n1_ rfl ?_
        refine sp_aload_n 31 rfl rfl rfl ?_
        refine hq_getR 34 rfl rfl rfl rfl ?_
        refine sp_iload_n 35 rfl rfl rfl ?_
        refine hq_iald 36 rfl rfl n1_ rfl ?_
        refine sp_ic_eq 39 rfl rfl (fun q_ => ?_) (fun q_ => ?_)
        · have k := k.1 q_
          refine hs_iinc 44 (L2 := [some (.ref 29), some (.ref a0), some (.int (v2 + Int32.ofInt 1))]) rfl rfl rfl rfl rfl ?_
          refine sp_goto rfl ?_
          exact k
        · have k := k.2 q_
          refine sp_iload_n 40 rfl rfl rfl ?_
          exact st_iret rfl rfl (Nat.le_refl _) (Nat.le_refl _) k
def w_X3_withRemainder_3 (SL : Nat) (xs : Nat → Int32) (d : Nat) (p s q : Nat) (Q : Option Value → mm_H → Prop) (v0 : Int64) (v2 : Int64) (v4 : Int32) (v5 : Int32) (v6 : Int32) (I : Nat → Nat → Int32) (J : Nat → Nat → Int64) : Prop := mm_w SL xs (mm_s SL xs (d + 0)) mm_am kX3_withRemainder 0 0 (some .long) Q 3 [some (.long v0), none, some (.long v2), none, some (.int v4), some (.int v5), some (.int v6), none, none] [] (hp p s q I J) 0 0
theorem sg_X3_withRemainder {SL : Nat} {xs : Nat → Int32} {d : Nat} {p s q : Nat} {Q : Option Value → mm_H → Prop} {a0 : Int64} {a1 : Int64} {a2 : Int32} {a3 : Int32} {I : Nat → Nat → Int32} {J : Nat → Nat → Int64}  (k : w_X3_withRemainder_3 SL xs d p s q Q a0 a1 a2 a3 (Int32.ofInt 0) I J) : mm_s SL xs (d + 1) 36 [.long a0, .long a1, .int a2, .int a3] (hp p s q I J) Q := by
  refine e_X3_withRemainder rfl ?_
  refine hs_L (L2 := [some (.long a0), none, some (.long a1), none, some (.int a2), some (.int a3), none, none, none]) rfl ?_
  refine sp_iconst 1 rfl rfl ?_
  refine hs_istore 3 (L2 := [some (.long a0), none, some (.long a1), none, some (.int a2), some (.int a3), some (.int (Int32.ofInt 0)), none, none]) rfl rfl rfl rfl ?_
  exact k
theorem sg_X3_withRemainder_3 {SL : Nat} {xs : Nat → Int32} {d : Nat} {p s q : Nat} {Q : Option Value → mm_H → Prop} {v0 : Int64} {v2 : Int64} {v4 : Int32} {v5 : Int32} {v6 : Int32} {I : Nat → Nat → Int32} {J : Nat → Nat → Int64}  (k : ((v5 ≤ v6 → Q (some (.long (Int64.ofInt (-1)))) (hp p s q I J)) ∧ (¬ (v5 ≤ v6) → (¬ ((v5).toInt64) = 0 ∧ ((((v0 + (v2 * ((v6).toInt64))) - (v0 + (v2 * ((v6).toInt64))) / ((v5).toInt64) * ((v5).toInt64)) = ((v4).toInt64) → Q (some (.long (v0 + (v2 * ((v6).toInt64))))) (hp p s q I J)) ∧ (¬ (((v0 + (v2 * ((v6).toInt64))) - (v0 + (v2 * ((v6).toInt64))) / ((v5).toInt64) * ((v5).toInt64)) = ((v4).toInt64)) → w_X3_withRemainder_3 SL xs d p s q Q v0 v2 v4 v5 (v6 + Int32.ofInt 1) I J)))))) : w_X3_withRemainder_3 SL xs d p s q Q v0 v2 v4 v5 v6 I J := by
  unfold w_X3_withRemainder_3
  refine sp_iload 5 rfl rfl rfl ?_
  refine sp_iload 7 rfl rfl rfl ?_
  refine sp_ic_ge 10 rfl rfl (fun q_ => ?_) (fun q_ => ?_)
  · have k := k.1 q_
    refine sp_ldc2 44 rfl rfl ?_
    exact st_lret rfl rfl (Nat.le_refl _) (Nat.le_refl _) k
  · have k := k.2 q_
    refine sp_lload_n 11 rfl rfl rfl ?_
    refine sp_lload_n 12 rfl rfl rfl ?_
    refine sp_iload 14 rfl rfl rfl ?_
    refine sp_i2l 15 rfl rfl ?_
    refine sp_lmul 16 rfl rfl ?_
    refine sp_ladd 17 rfl rfl ?_
    refine hs_lstore 19 (L2 := [some (.long v0), none, some (.long v2), none, some (.int v4), some (.int v5), some (.int v6), some (.long (v0 + (v2 * ((v6).toInt64)))), none]) rfl rfl rfl rfl ?_
    refine sp_lload 21 rfl rfl rfl ?_
    refine sp_iload 23 rfl rfl rfl ?_
    refine sp_i2l 24 rfl rfl ?_
    have n1_ := k.1
    have k := k.2
    refine sp_lrem 25 rfl n1_ rfl ?_
    refine sp_iload 27 rfl rfl rfl ?_
    refine sp_i2l 28 rfl rfl ?_
    refine sp_lcmp 29 rfl rfl ?_
    refine sp_if_ne 32 rfl rfl (fun q_ => ?_) (fun q_ => ?_)
    · have k := k.2 (fun z_ => q_ ((lg_cmp_eq _ _).mpr z_))
      refine hs_iinc 38 (L2 := [some (.long v0), none, some (.long v2), none, some (.int v4), some (.int v5), some (.int (v6 + Int32.ofInt 1)), some (.long (v0 + (v2 * ((v6).toInt64)))), none]) rfl rfl rfl rfl rfl ?_
      refine sp_goto rfl ?_
      refine st_wk (L1 := [some (.long v0), none, some (.long v2), none, some (.int v4), some (.int v5), some (.int (v6 + Int32.ofInt 1)), none, none]) ⟨.inr rfl, .inl rfl, .inr rfl, .inl rfl, .inr rfl, .inr rfl, .inr rfl, .inl rfl, .inl rfl, trivial⟩ ?_
      exact k
    · have k := k.1 ((lg_cmp_eq _ _).mp q_)
      refine sp_lload 34 rfl rfl rfl ?_
      exact st_lret rfl rfl (Nat.le_refl _) (Nat.le_refl _) k
def w_X4_goer_25 (SL : Nat) (xs : Nat → Int32) (d : Nat) (p s q : Nat) (Q : Option Value → mm_H → Prop) (v0 : Int32) (v1 : Int32) (v2 : Int32) (v3 : Int32) (v4 : Int32) (v5 : Int32) (I : Nat → Nat → Int32) (J : Nat → Nat → Int64) : Prop := mm_w SL xs (mm_s SL xs (d + 0)) mm_am kX4_goer 0 0 (some .int) Q 25 [some (.int v0), some (.int v1), some (.int v2), some (.int v3), some (.int v4), some (.int v5)] [] (hp p s q I J) 0 0
theorem sg_X4_goer {SL : Nat} {xs : Nat → Int32} {d : Nat} {p s q : Nat} {Q : Option Value → mm_H → Prop} {a0 : Int32} {a1 : Int32} {a2 : Int32} {I : Nat → Nat → Int32} {J : Nat → Nat → Int64}  (k : (((Int32.ofInt 1) ≤ ((a0 - a2) + (Int32.ofInt 1)) → (¬ ((a0 - a2) + (Int32.ofInt 1)) = 0 ∧ w_X4_goer_25 SL xs d p s q Q a0 a1 a2 ((a0 - a2) + (Int32.ofInt 1)) ((a1 - (Int32.ofInt 1)) - (a1 - (Int32.ofInt 1)) / ((a0 - a2) + (Int32.ofInt 1)) * ((a0 - a2) + (Int32.ofInt 1))) (((a0 - a2) + (Int32.ofInt 1)) + (Int32.ofInt 1)) I J)) ∧ (¬ ((Int32.ofInt 1) ≤ ((a0 - a2) + (Int32.ofInt 1))) → Q (some (.int (Int32.ofInt (-1)))) (hp p s q I J)))) : mm_s SL xs (d + 1) 40 [.int a0, .int a1, .int a2] (hp p s q I J) Q := by
  refine e_X4_goer rfl ?_
  refine hs_L (L2 := [some (.int a0), some (.int a1), some (.int a2), none, none, none]) rfl ?_
  refine sp_iload_n 1 rfl rfl rfl ?_
  refine sp_iload_n 2 rfl rfl rfl ?_
  refine sp_isub 3 rfl rfl ?_
  refine sp_iconst 4 rfl rfl ?_
  refine sp_iadd 5 rfl rfl ?_
  refine hs_istore_n 6 (L2 := [some (.int a0), some (.int a1), some (.int a2), some (.int ((a0 - a2) + (Int32.ofInt 1))), none, none]) rfl rfl rfl rfl ?_
  refine sp_iload_n 7 rfl rfl rfl ?_
  refine sp_iconst 8 rfl rfl ?_
  refine sp_ic_ge 11 rfl rfl (fun q_ => ?_) (fun q_ => ?_)
  · have k := k.1 q_
    refine sp_iload_n 14 rfl rfl rfl ?_
    refine sp_iconst 15 rfl rfl ?_
    refine sp_isub 16 rfl rfl ?_
    refine sp_iload_n 17 rfl rfl rfl ?_
    have n1_ := k.1
    have k := k.2
    refine sp_irem 18 rfl n1_ rfl ?_
    refine hs_istore 20 (L2 := [some (.int a0), some (.int a1), some (.int a2), some (.int ((a0 - a2) + (Int32.ofInt 1))), some (.int ((a1 - (Int32.ofInt 1)) - (a1 - (Int32.ofInt 1)) / ((a0 - a2) + (Int32.ofInt 1)) * ((a0 - a2) + (Int32.ofInt 1)))), none]) rfl rfl rfl rfl ?_
    refine sp_iload_n 21 rfl rfl rfl ?_
    refine sp_iconst 22 rfl rfl ?_
    refine sp_iadd 23 rfl rfl ?_
    refine hs_istore 25 (L2 := [some (.int a0), some (.int a1), some (.int a2), some (.int ((a0 - a2) + (Int32.ofInt 1))), some (.int ((a1 - (Int32.ofInt 1)) - (a1 - (Int32.ofInt 1)) / ((a0 - a2) + (Int32.ofInt 1)) * ((a0 - a2) + (Int32.ofInt 1)))), some (.int (((a0 - a2) + (Int32.ofInt 1)) + (Int32.ofInt 1)))]) rfl rfl rfl rfl ?_
    exact k
  · have k := k.2 q_
    refine sp_iconst 12 rfl rfl ?_
    exact st_iret rfl rfl (Nat.le_refl _) (Nat.le_refl _) k
theorem sg_X4_goer_25 {SL : Nat} {xs : Nat → Int32} {d : Nat} {p s q : Nat} {Q : Option Value → mm_H → Prop} {v0 : Int32} {v1 : Int32} {v2 : Int32} {v3 : Int32} {v4 : Int32} {v5 : Int32} {I : Nat → Nat → Int32} {J : Nat → Nat → Int64}  (k : ((v0 < v5 → Q (some (.int v4)) (hp p s q I J)) ∧ (¬ (v0 < v5) → (¬ v5 = 0 ∧ w_X4_goer_25 SL xs d p s q Q v0 v1 v2 v3 ((v4 + v1) - (v4 + v1) / v5 * v5) (v5 + Int32.ofInt 1) I J)))) : w_X4_goer_25 SL xs d p s q Q v0 v1 v2 v3 v4 v5 I J := by
  unfold w_X4_goer_25
  refine sp_iload 27 rfl rfl rfl ?_
  refine sp_iload_n 28 rfl rfl rfl ?_
  refine sp_ic_gt 31 rfl rfl (fun q_ => ?_) (fun q_ => ?_)
  · have k := k.1 q_
    refine sp_iload 48 rfl rfl rfl ?_
    exact st_iret rfl rfl (Nat.le_refl _) (Nat.le_refl _) k
  · have k := k.2 q_
    refine sp_iload 33 rfl rfl rfl ?_
    refine sp_iload_n 34 rfl rfl rfl ?_
    refine sp_iadd 35 rfl rfl ?_
    refine sp_iload 37 rfl rfl rfl ?_
    have n2_ := k.1
    have k := k.2
    refine sp_irem 38 rfl n2_ rfl ?_
    refine hs_istore 40 (L2 := [some (.int v0), some (.int v1), some (.int v2), some (.int v3), some (.int ((v4 + v1) - (v4 + v1) / v5 * v5)), some (.int v5)]) rfl rfl rfl rfl ?_
    refine hs_iinc 43 (L2 := [some (.int v0), some (.int v1), some (.int v2), some (.int v3), some (.int ((v4 + v1) - (v4 + v1) / v5 * v5)), some (.int (v5 + Int32.ofInt 1))]) rfl rfl rfl rfl rfl ?_
    refine sp_goto rfl ?_
    exact k
def w_X4_farGoer_9 (SL : Nat) (xs : Nat → Int32) (d : Nat) (p s q : Nat) (Q : Option Value → mm_H → Prop) (v0 : Int64) (v2 : Int32) (v3 : Int64) (v5 : Int64) (v7 : Int32) (I : Nat → Nat → Int32) (J : Nat → Nat → Int64) : Prop := mm_w SL xs (mm_s SL xs (d + 0)) mm_am kX4_farGoer 0 0 (some .long) Q 9 [some (.long v0), none, some (.int v2), some (.long v3), none, some (.long v5), none, some (.int v7)] [] (hp p s q I J) 0 0
theorem sg_X4_farGoer {SL : Nat} {xs : Nat → Int32} {d : Nat} {p s q : Nat} {Q : Option Value → mm_H → Prop} {a0 : Int64} {a1 : Int32} {a2 : Int64} {I : Nat → Nat → Int32} {J : Nat → Nat → Int64}  (k : w_X4_farGoer_9 SL xs d p s q Q a0 a1 a2 (a2 * ((a1).toInt64)) (Int32.ofInt 0) I J) : mm_s SL xs (d + 1) 41 [.long a0, .int a1, .long a2] (hp p s q I J) Q := by
  refine e_X4_farGoer rfl ?_
  refine hs_L (L2 := [some (.long a0), none, some (.int a1), some (.long a2), none, none, none, none]) rfl ?_
  refine sp_lload_n 1 rfl rfl rfl ?_
  refine sp_iload_n 2 rfl rfl rfl ?_
  refine sp_i2l 3 rfl rfl ?_
  refine sp_lmul 4 rfl rfl ?_
  refine hs_lstore 6 (L2 := [some (.long a0), none, some (.int a1), some (.long a2), none, some (.long (a2 * ((a1).toInt64))), none, none]) rfl rfl rfl rfl ?_
  refine sp_iconst 7 rfl rfl ?_
  refine hs_istore 9 (L2 := [some (.long a0), none, some (.int a1), some (.long a2), none, some (.long (a2 * ((a1).toInt64))), none, some (.int (Int32.ofInt 0))]) rfl rfl rfl rfl ?_
  exact k
theorem sg_X4_farGoer_9 {SL : Nat} {xs : Nat → Int32} {d : Nat} {p s q : Nat} {Q : Option Value → mm_H → Prop} {v0 : Int64} {v2 : Int32} {v3 : Int64} {v5 : Int64} {v7 : Int32} {I : Nat → Nat → Int32} {J : Nat → Nat → Int64}  (k : (((Int32.ofInt 1000000) ≤ v7 → Q (some (.long (v5 - (Int64.ofInt 1)))) (hp p s q I J)) ∧ (¬ ((Int32.ofInt 1000000) ≤ v7) → ((v5 ≤ v0 → Q (some (.long (v5 - (Int64.ofInt 1)))) (hp p s q I J)) ∧ (¬ (v5 ≤ v0) → ((v2 ≤ (Int32.ofInt 1) → Q (some (.long (v5 - (Int64.ofInt 1)))) (hp p s q I J)) ∧ (¬ (v2 ≤ (Int32.ofInt 1)) → (¬ (((v2 - (Int32.ofInt 1))).toInt64) = 0 ∧ w_X4_farGoer_9 SL xs d p s q Q v0 v2 v3 ((v5 - v0) + (((v5 - v0) - (Int64.ofInt 1)) / (((v2 - (Int32.ofInt 1))).toInt64))) (v7 + Int32.ofInt 1) I J)))))))) : w_X4_farGoer_9 SL xs d p s q Q v0 v2 v3 v5 v7 I J := by
  unfold w_X4_farGoer_9
  refine sp_iload 11 rfl rfl rfl ?_
  refine sp_ldc 13 rfl rfl ?_
  refine sp_ic_ge 16 rfl rfl (fun q_ => ?_) (fun q_ => ?_)
  · have k := k.1 q_
    refine sp_lload 54 rfl rfl rfl ?_
    refine sp_lconst 55 rfl rfl ?_
    refine sp_J (y := Int64.ofInt 1) rfl ?_
    refine sp_lsub 56 rfl rfl ?_
    exact st_lret rfl rfl (Nat.le_refl _) (Nat.le_refl _) k
  · have k := k.2 q_
    refine sp_lload 18 rfl rfl rfl ?_
    refine sp_lload_n 19 rfl rfl rfl ?_
    refine sp_lcmp 20 rfl rfl ?_
    refine sp_if_le 23 rfl rfl (fun q_ => ?_) (fun q_ => ?_)
    · have k := k.1 ((lg_cmp_le _ _).mp q_)
      refine sp_lload 54 rfl rfl rfl ?_
      refine sp_lconst 55 rfl rfl ?_
      refine sp_J (y := Int64.ofInt 1) rfl ?_
      refine sp_lsub 56 rfl rfl ?_
      exact st_lret rfl rfl (Nat.le_refl _) (Nat.le_refl _) k
    · have k := k.2 (fun z_ => q_ ((lg_cmp_le _ _).mpr z_))
      refine sp_iload_n 24 rfl rfl rfl ?_
      refine sp_iconst 25 rfl rfl ?_
      refine sp_ic_le 28 rfl rfl (fun q_ => ?_) (fun q_ => ?_)
      · have k := k.1 q_
        refine sp_lload 54 rfl rfl rfl ?_
        refine sp_lconst 55 rfl rfl ?_
        refine sp_J (y := Int64.ofInt 1) rfl ?_
        refine sp_lsub 56 rfl rfl ?_
        exact st_lret rfl rfl (Nat.le_refl _) (Nat.le_refl _) k
      · have k := k.2 q_
        refine sp_lload 30 rfl rfl rfl ?_
        refine sp_lload_n 31 rfl rfl rfl ?_
        refine sp_lsub 32 rfl rfl ?_
        refine sp_lload 34 rfl rfl rfl ?_
        refine sp_lload_n 35 rfl rfl rfl ?_
        refine sp_lsub 36 rfl rfl ?_
        refine sp_lconst 37 rfl rfl ?_
        refine sp_J (y := Int64.ofInt 1) rfl ?_
        refine sp_lsub 38 rfl rfl ?_
        refine sp_iload_n 39 rfl rfl rfl ?_
        refine sp_iconst 40 rfl rfl ?_
        refine sp_isub 41 rfl rfl ?_
        refine sp_i2l 42 rfl rfl ?_
        have n1_ := k.1
        have k := k.2
        refine sp_ldiv 43 rfl n1_ rfl ?_
        refine sp_ladd 44 rfl rfl ?_
        refine hs_lstore 46 (L2 := [some (.long v0), none, some (.int v2), some (.long v3), none, some (.long ((v5 - v0) + (((v5 - v0) - (Int64.ofInt 1)) / (((v2 - (Int32.ofInt 1))).toInt64)))), none, some (.int v7)]) rfl rfl rfl rfl ?_
        refine hs_iinc 49 (L2 := [some (.long v0), none, some (.int v2), some (.long v3), none, some (.long ((v5 - v0) + (((v5 - v0) - (Int64.ofInt 1)) / (((v2 - (Int32.ofInt 1))).toInt64)))), none, some (.int (v7 + Int32.ofInt 1))]) rfl rfl rfl rfl rfl ?_
        refine sp_goto rfl ?_
        exact k
def w_X4_placeOf_17 (SL : Nat) (xs : Nat → Int32) (d : Nat) (p s q : Nat) (Q : Option Value → mm_H → Prop) (v0 : Int64) (v2 : Int32) (v3 : Int64) (v5 : Int64) (v7 : Int32) (I : Nat → Nat → Int32) (J : Nat → Nat → Int64) : Prop := mm_w SL xs (mm_s SL xs (d + 0)) mm_am kX4_placeOf 0 0 (some .long) Q 17 [some (.long v0), none, some (.int v2), some (.long v3), none, some (.long v5), none, some (.int v7)] [] (hp p s q I J) 0 0
theorem sg_X4_placeOf {SL : Nat} {xs : Nat → Int32} {d : Nat} {p s q : Nat} {Q : Option Value → mm_H → Prop} {a0 : Int64} {a1 : Int32} {a2 : Int64} {I : Nat → Nat → Int32} {J : Nat → Nat → Int64}  (k : (((Int32.ofInt 1) ≤ a1 → w_X4_placeOf_17 SL xs d p s q Q a0 a1 a2 (a2 + (Int64.ofInt 1)) (Int32.ofInt 0) I J) ∧ (¬ ((Int32.ofInt 1) ≤ a1) → Q (some (.long (Int64.ofInt (-1)))) (hp p s q I J)))) : mm_s SL xs (d + 1) 42 [.long a0, .int a1, .long a2] (hp p s q I J) Q := by
  refine e_X4_placeOf rfl ?_
  refine hs_L (L2 := [some (.long a0), none, some (.int a1), some (.long a2), none, none, none, none]) rfl ?_
  refine sp_iload_n 1 rfl rfl rfl ?_
  refine sp_iconst 2 rfl rfl ?_
  refine sp_ic_ge 5 rfl rfl (fun q_ => ?_) (fun q_ => ?_)
  · have k := k.1 q_
    refine sp_lload_n 10 rfl rfl rfl ?_
    refine sp_lconst 11 rfl rfl ?_
    refine sp_J (y := Int64.ofInt 1) rfl ?_
    refine sp_ladd 12 rfl rfl ?_
    refine hs_lstore 14 (L2 := [some (.long a0), none, some (.int a1), some (.long a2), none, some (.long (a2 + (Int64.ofInt 1))), none, none]) rfl rfl rfl rfl ?_
    refine sp_iconst 15 rfl rfl ?_
    refine hs_istore 17 (L2 := [some (.long a0), none, some (.int a1), some (.long a2), none, some (.long (a2 + (Int64.ofInt 1))), none, some (.int (Int32.ofInt 0))]) rfl rfl rfl rfl ?_
    exact k
  · have k := k.2 q_
    refine sp_ldc2 8 rfl rfl ?_
    exact st_lret rfl rfl (Nat.le_refl _) (Nat.le_refl _) k
theorem sg_X4_placeOf_17 {SL : Nat} {xs : Nat → Int32} {d : Nat} {p s q : Nat} {Q : Option Value → mm_H → Prop} {v0 : Int64} {v2 : Int32} {v3 : Int64} {v5 : Int64} {v7 : Int32} {I : Nat → Nat → Int32} {J : Nat → Nat → Int64}  (k : (((Int32.ofInt 1000000) ≤ v7 → (¬ ((v2).toInt64) = 0 ∧ Q (some (.long (v5 / ((v2).toInt64)))) (hp p s q I J))) ∧ (¬ ((Int32.ofInt 1000000) ≤ v7) → (¬ ((v2).toInt64) = 0 ∧ (((v5 - v5 / ((v2).toInt64) * ((v2).toInt64)) = (Int64.ofInt 0) → Q (some (.long (v5 / ((v2).toInt64)))) (hp p s q I J)) ∧ (¬ ((v5 - v5 / ((v2).toInt64) * ((v2).toInt64)) = (Int64.ofInt 0)) → w_X4_placeOf_17 SL xs d p s q Q v0 v2 v3 ((v0 + v5) - (v5 / ((v2).toInt64))) (v7 + Int32.ofInt 1) I J)))))) : w_X4_placeOf_17 SL xs d p s q Q v0 v2 v3 v5 v7 I J := by
  unfold w_X4_placeOf_17
  refine sp_iload 19 rfl rfl rfl ?_
  refine sp_ldc 21 rfl rfl ?_
  refine sp_ic_ge 24 rfl rfl (fun q_ => ?_) (fun q_ => ?_)
  · have k := k.1 q_
    refine sp_lload 54 rfl rfl rfl ?_
    refine sp_iload_n 55 rfl rfl rfl ?_
    refine sp_i2l 56 rfl rfl ?_
    have n1_ := k.1
    have k := k.2
    refine sp_ldiv 57 rfl n1_ rfl ?_
    exact st_lret rfl rfl (Nat.le_refl _) (Nat.le_refl _) k
  · have k := k.2 q_
    refine sp_lload 26 rfl rfl rfl ?_
    refine sp_iload_n 27 rfl rfl rfl ?_
    refine sp_i2l 28 rfl rfl ?_
    have n2_ := k.1
    have k := k.2
    refine sp_lrem 29 rfl n2_ rfl ?_
    refine sp_lconst 30 rfl rfl ?_
    refine sp_J (y := Int64.ofInt 0) rfl ?_
    refine sp_lcmp 31 rfl rfl ?_
    refine sp_if_eq 34 rfl rfl (fun q_ => ?_) (fun q_ => ?_)
    · have k := k.1 ((lg_cmp_eq _ _).mp q_)
      refine sp_lload 54 rfl rfl rfl ?_
      refine sp_iload_n 55 rfl rfl rfl ?_
      refine sp_i2l 56 rfl rfl ?_
      refine sp_ldiv 57 rfl n2_ rfl ?_
      exact st_lret rfl rfl (Nat.le_refl _) (Nat.le_refl _) k
    · have k := k.2 (fun z_ => q_ ((lg_cmp_eq _ _).mpr z_))
      refine sp_lload_n 35 rfl rfl rfl ?_
      refine sp_lload 37 rfl rfl rfl ?_
      refine sp_ladd 38 rfl rfl ?_
      refine sp_lload 40 rfl rfl rfl ?_
      refine sp_iload_n 41 rfl rfl rfl ?_
      refine sp_i2l 42 rfl rfl ?_
      refine sp_ldiv 43 rfl n2_ rfl ?_
      refine sp_lsub 44 rfl rfl ?_
      refine hs_lstore 46 (L2 := [some (.long v0), none, some (.int v2), some (.long v3), none, some (.long ((v0 + v5) - (v5 / ((v2).toInt64)))), none, some (.int v7)]) rfl rfl rfl rfl ?_
      refine hs_iinc 49 (L2 := [some (.long v0), none, some (.int v2), some (.long v3), none, some (.long ((v0 + v5) - (v5 / ((v2).toInt64)))), none, some (.int (v7 + Int32.ofInt 1))]) rfl rfl rfl rfl rfl ?_
      refine sp_goto rfl ?_
      exact k
def w_X4_sizeKeeping_8 (SL : Nat) (xs : Nat → Int32) (d : Nat) (p s q : Nat) (Q : Option Value → mm_H → Prop) (v0 : Int32) (v1 : Int32) (v2 : Int32) (v3 : Int32) (v4 : Int32) (v5 : Int32) (I : Nat → Nat → Int32) (J : Nat → Nat → Int64) : Prop := mm_w SL xs (mm_s SL xs (d + 0)) mm_am kX4_sizeKeeping 0 0 (some .int) Q 8 [some (.int v0), some (.int v1), some (.int v2), some (.int v3), some (.int v4), some (.int v5)] [] (hp p s q I J) 0 0
theorem sg_X4_sizeKeeping {SL : Nat} {xs : Nat → Int32} {d : Nat} {p s q : Nat} {Q : Option Value → mm_H → Prop} {a0 : Int32} {a1 : Int32} {a2 : Int32} {I : Nat → Nat → Int32} {J : Nat → Nat → Int64}  (k : w_X4_sizeKeeping_8 SL xs d p s q Q a0 a1 a2 (Int32.ofInt 0) (Int32.ofInt 0) (Int32.ofInt 1) I J) : mm_s SL xs (d + 1) 43 [.int a0, .int a1, .int a2] (hp p s q I J) Q := by
  refine e_X4_sizeKeeping rfl ?_
  refine hs_L (L2 := [some (.int a0), some (.int a1), some (.int a2), none, none, none]) rfl ?_
  refine sp_iconst 1 rfl rfl ?_
  refine hs_istore_n 2 (L2 := [some (.int a0), some (.int a1), some (.int a2), some (.int (Int32.ofInt 0)), none, none]) rfl rfl rfl rfl ?_
  refine sp_iconst 3 rfl rfl ?_
  refine hs_istore 5 (L2 := [some (.int a0), some (.int a1), some (.int a2), some (.int (Int32.ofInt 0)), some (.int (Int32.ofInt 0)), none]) rfl rfl rfl rfl ?_
  refine sp_iconst 6 rfl rfl ?_
  refine hs_istore 8 (L2 := [some (.int a0), some (.int a1), some (.int a2), some (.int (Int32.ofInt 0)), some (.int (Int32.ofInt 0)), some (.int (Int32.ofInt 1))]) rfl rfl rfl rfl ?_
  exact k
theorem sg_X4_sizeKeeping_8 {SL : Nat} {xs : Nat → Int32} {d : Nat} {p s q : Nat} {Q : Option Value → mm_H → Prop} {v0 : Int32} {v1 : Int32} {v2 : Int32} {v3 : Int32} {v4 : Int32} {v5 : Int32} {I : Nat → Nat → Int32} {J : Nat → Nat → Int64}  (k : (((Int32.ofInt 5000) < v5 → Q (some (.int (Int32.ofInt (-1)))) (hp p s q I J)) ∧ (¬ ((Int32.ofInt 5000) < v5) → (¬ v5 = 0 ∧ ((((v4 + v0) - (v4 + v0) / v5 * v5) = v1 → ((v3 = v2 → Q (some (.int v5)) (hp p s q I J)) ∧ (¬ (v3 = v2) → w_X4_sizeKeeping_8 SL xs d p s q Q v0 v1 v2 (v3 + Int32.ofInt 1) ((v4 + v0) - (v4 + v0) / v5 * v5) (v5 + Int32.ofInt 1) I J))) ∧ (¬ (((v4 + v0) - (v4 + v0) / v5 * v5) = v1) → w_X4_sizeKeeping_8 SL xs d p s q Q v0 v1 v2 v3 ((v4 + v0) - (v4 + v0) / v5 * v5) (v5 + Int32.ofInt 1) I J)))))) : w_X4_sizeKeeping_8 SL xs d p s q Q v0 v1 v2 v3 v4 v5 I J := by
  unfold w_X4_sizeKeeping_8
  refine sp_iload 10 rfl rfl rfl ?_
  refine sp_sipush 13 rfl rfl ?_
  refine sp_I (y := Int32.ofInt 5000) rfl ?_
  refine sp_ic_gt 16 rfl rfl (fun q_ => ?_) (fun q_ => ?_)
  · have k := k.1 q_
    refine sp_iconst 49 rfl rfl ?_
    exact st_iret rfl rfl (Nat.le_refl _) (Nat.le_refl _) k
  · have k := k.2 q_
    refine sp_iload 18 rfl rfl rfl ?_
    refine sp_iload_n 19 rfl rfl rfl ?_
    refine sp_iadd 20 rfl rfl ?_
    refine sp_iload 22 rfl rfl rfl ?_
    have n1_ := k.1
    have k := k.2
    refine sp_irem 23 rfl n1_ rfl ?_
    refine hs_istore 25 (L2 := [some (.int v0), some (.int v1), some (.int v2), some (.int v3), some (.int ((v4 + v0) - (v4 + v0) / v5 * v5)), some (.int v5)]) rfl rfl rfl rfl ?_
    refine sp_iload 27 rfl rfl rfl ?_
    refine sp_iload_n 28 rfl rfl rfl ?_
    refine sp_ic_ne 31 rfl rfl (fun q_ => ?_) (fun q_ => ?_)
    · have k := k.2 q_
      refine hs_iinc 45 (L2 := [some (.int v0), some (.int v1), some (.int v2), some (.int v3), some (.int ((v4 + v0) - (v4 + v0) / v5 * v5)), some (.int (v5 + Int32.ofInt 1))]) rfl rfl rfl rfl rfl ?_
      refine sp_goto rfl ?_
      exact k
    · have k := k.1 q_
      refine sp_iload_n 32 rfl rfl rfl ?_
      refine sp_iload_n 33 rfl rfl rfl ?_
      refine sp_ic_ne 36 rfl rfl (fun q_ => ?_) (fun q_ => ?_)
      · have k := k.2 q_
        refine hs_iinc 42 (L2 := [some (.int v0), some (.int v1), some (.int v2), some (.int (v3 + Int32.ofInt 1)), some (.int ((v4 + v0) - (v4 + v0) / v5 * v5)), some (.int v5)]) rfl rfl rfl rfl rfl ?_
        refine hs_iinc 45 (L2 := [some (.int v0), some (.int v1), some (.int v2), some (.int (v3 + Int32.ofInt 1)), some (.int ((v4 + v0) - (v4 + v0) / v5 * v5)), some (.int (v5 + Int32.ofInt 1))]) rfl rfl rfl rfl rfl ?_
        refine sp_goto rfl ?_
        exact k
      · have k := k.1 q_
        refine sp_iload 38 rfl rfl rfl ?_
        exact st_iret rfl rfl (Nat.le_refl _) (Nat.le_refl _) k
def w_X4_greatestCommon_9 (SL : Nat) (xs : Nat → Int32) (d : Nat) (p s q : Nat) (Q : Option Value → mm_H → Prop) (v0 : Int64) (v2 : Int64) (v4 : Int64) (v6 : Int64) (v8 : Int32) (I : Nat → Nat → Int32) (J : Nat → Nat → Int64) : Prop := mm_w SL xs (mm_s SL xs (d + 0)) mm_am kX4_greatestCommon 0 0 (some .long) Q 9 [some (.long v0), none, some (.long v2), none, some (.long v4), none, some (.long v6), none, some (.int v8), none, none] [] (hp p s q I J) 0 0
theorem sg_X4_greatestCommon {SL : Nat} {xs : Nat → Int32} {d : Nat} {p s q : Nat} {Q : Option Value → mm_H → Prop} {a0 : Int64} {a1 : Int64} {I : Nat → Nat → Int32} {J : Nat → Nat → Int64}  (k : w_X4_greatestCommon_9 SL xs d p s q Q a0 a1 a0 a1 (Int32.ofInt 0) I J) : mm_s SL xs (d + 1) 46 [.long a0, .long a1] (hp p s q I J) Q := by
  refine e_X4_greatestCommon rfl ?_
  refine hs_L (L2 := [some (.long a0), none, some (.long a1), none, none, none, none, none, none, none, none]) rfl ?_
  refine sp_lload_n 1 rfl rfl rfl ?_
  refine hs_lstore 3 (L2 := [some (.long a0), none, some (.long a1), none, some (.long a0), none, none, none, none, none, none]) rfl rfl rfl rfl ?_
  refine sp_lload_n 4 rfl rfl rfl ?_
  refine hs_lstore 6 (L2 := [some (.long a0), none, some (.long a1), none, some (.long a0), none, some (.long a1), none, none, none, none]) rfl rfl rfl rfl ?_
  refine sp_iconst 7 rfl rfl ?_
  refine hs_istore 9 (L2 := [some (.long a0), none, some (.long a1), none, some (.long a0), none, some (.long a1), none, some (.int (Int32.ofInt 0)), none, none]) rfl rfl rfl rfl ?_
  exact k
theorem sg_X4_greatestCommon_9 {SL : Nat} {xs : Nat → Int32} {d : Nat} {p s q : Nat} {Q : Option Value → mm_H → Prop} {v0 : Int64} {v2 : Int64} {v4 : Int64} {v6 : Int64} {v8 : Int32} {I : Nat → Nat → Int32} {J : Nat → Nat → Int64}  (k : (((Int32.ofInt 100) ≤ v8 → Q (some (.long v4)) (hp p s q I J)) ∧ (¬ ((Int32.ofInt 100) ≤ v8) → ((v6 = (Int64.ofInt 0) → Q (some (.long v4)) (hp p s q I J)) ∧ (¬ (v6 = (Int64.ofInt 0)) → (¬ v6 = 0 ∧ w_X4_greatestCommon_9 SL xs d p s q Q v0 v2 v6 (v4 - v4 / v6 * v6) (v8 + Int32.ofInt 1) I J)))))) : w_X4_greatestCommon_9 SL xs d p s q Q v0 v2 v4 v6 v8 I J := by
  unfold w_X4_greatestCommon_9
  refine sp_iload 11 rfl rfl rfl ?_
  refine sp_bipush 13 rfl rfl ?_
  refine sp_I (y := Int32.ofInt 100) rfl ?_
  refine sp_ic_ge 16 rfl rfl (fun q_ => ?_) (fun q_ => ?_)
  · have k := k.1 q_
    refine sp_lload 46 rfl rfl rfl ?_
    exact st_lret rfl rfl (Nat.le_refl _) (Nat.le_refl _) k
  · have k := k.2 q_
    refine sp_lload 18 rfl rfl rfl ?_
    refine sp_lconst 19 rfl rfl ?_
    refine sp_J (y := Int64.ofInt 0) rfl ?_
    refine sp_lcmp 20 rfl rfl ?_
    refine sp_if_eq 23 rfl rfl (fun q_ => ?_) (fun q_ => ?_)
    · have k := k.1 ((lg_cmp_eq _ _).mp q_)
      refine sp_lload 46 rfl rfl rfl ?_
      exact st_lret rfl rfl (Nat.le_refl _) (Nat.le_refl _) k
    · have k := k.2 (fun z_ => q_ ((lg_cmp_eq _ _).mpr z_))
      refine sp_lload 25 rfl rfl rfl ?_
      refine sp_lload 27 rfl rfl rfl ?_
      have n1_ := k.1
      have k := k.2
      refine sp_lrem 28 rfl n1_ rfl ?_
      refine hs_lstore 30 (L2 := [some (.long v0), none, some (.long v2), none, some (.long v4), none, some (.long v6), none, some (.int v8), some (.long (v4 - v4 / v6 * v6)), none]) rfl rfl rfl rfl ?_
      refine sp_lload 32 rfl rfl rfl ?_
      refine hs_lstore 34 (L2 := [some (.long v0), none, some (.long v2), none, some (.long v6), none, some (.long v6), none, some (.int v8), some (.long (v4 - v4 / v6 * v6)), none]) rfl rfl rfl rfl ?_
      refine sp_lload 36 rfl rfl rfl ?_
      refine hs_lstore 38 (L2 := [some (.long v0), none, some (.long v2), none, some (.long v6), none, some (.long (v4 - v4 / v6 * v6)), none, some (.int v8), some (.long (v4 - v4 / v6 * v6)), none]) rfl rfl rfl rfl ?_
      refine hs_iinc 41 (L2 := [some (.long v0), none, some (.long v2), none, some (.long v6), none, some (.long (v4 - v4 / v6 * v6)), none, some (.int (v8 + Int32.ofInt 1)), some (.long (v4 - v4 / v6 * v6)), none]) rfl rfl rfl rfl rfl ?_
      refine sp_goto rfl ?_
      refine st_wk (L1 := [some (.long v0), none, some (.long v2), none, some (.long v6), none, some (.long (v4 - v4 / v6 * v6)), none, some (.int (v8 + Int32.ofInt 1)), none, none]) ⟨.inr rfl, .inl rfl, .inr rfl, .inl rfl, .inr rfl, .inl rfl, .inr rfl, .inl rfl, .inr rfl, .inl rfl, .inl rfl, trivial⟩ ?_
      exact k
theorem sg_X5_clear {SL : Nat} {xs : Nat → Int32} {d : Nat} {p s q : Nat} {Q : Option Value → mm_H → Prop} {o : Nat} {I : Nat → Nat → Int32} {J : Nat → Nat → Int64} (h_o : isP o) (k : (vp_in (Int32.ofInt 0) 360 ∧ Q none (hp p s q (mm_u (mm_u (mm_u (mm_u (mm_u (mm_u (mm_u (mm_u (mm_u (mm_u (mm_u (mm_u (mm_u I o 0 (Int32.ofInt 1)) o 1 (Int32.ofInt 0)) o 2 (Int32.ofInt 1)) o 3 (Int32.ofInt 0)) o 4 (Int32.ofInt 0)) o 5 (Int32.ofInt (-1))) o 7 (Int32.ofInt 0)) o 8 (Int32.ofInt 0)) o 9 (Int32.ofInt 0)) o 10 (Int32.ofInt 0)) o 11 (Int32.ofInt 0)) (o + 5) (((Int32.ofInt 0)).toNatClampNeg) (Int32.ofInt 3)) o 17 (Int32.ofInt 1)) (mm_u J o 6 (Int64.ofInt 0))))) : mm_s SL xs (d + 1) 50 [.ref o] (hp p s q I J) Q := by
  refine e_X5_clear rfl ?_
  refine hs_L (L2 := [some (.ref o)]) rfl ?_
  refine sp_aload_n 1 rfl rfl rfl ?_
  refine sp_iconst 2 rfl rfl ?_
  refine hq_putI 5 rfl (kP0 h_o) rfl ?_
  refine sp_aload_n 6 rfl rfl rfl ?_
  refine sp_iconst 7 rfl rfl ?_
  refine hq_putI 10 rfl (kP0 h_o) rfl ?_
  refine sp_aload_n 11 rfl rfl rfl ?_
  refine sp_iconst 12 rfl rfl ?_
  refine hq_putI 15 rfl (kP0 h_o) rfl ?_
  refine sp_aload_n 16 rfl rfl rfl ?_
  refine sp_iconst 17 rfl rfl ?_
  refine hq_putI 20 rfl (kP0 h_o) rfl ?_
  refine sp_aload_n 21 rfl rfl rfl ?_
  refine sp_iconst 22 rfl rfl ?_
  refine hq_putI 25 rfl (kP0 h_o) rfl ?_
  refine sp_aload_n 26 rfl rfl rfl ?_
  refine sp_iconst 27 rfl rfl ?_
  refine hq_putI 30 rfl (kP0 h_o) rfl ?_
  refine sp_aload_n 31 rfl rfl rfl ?_
  refine sp_lconst 32 rfl rfl ?_
  refine sp_J (y := Int64.ofInt 0) rfl ?_
  refine hq_putJ 35 rfl (kP0 h_o) rfl ?_
  refine sp_aload_n 36 rfl rfl rfl ?_
  refine sp_iconst 37 rfl rfl ?_
  refine hq_putI 40 rfl (kP0 h_o) rfl ?_
  refine sp_aload_n 41 rfl rfl rfl ?_
  refine sp_iconst 42 rfl rfl ?_
  refine hq_putI 45 rfl (kP0 h_o) rfl ?_
  refine sp_aload_n 46 rfl rfl rfl ?_
  refine sp_iconst 47 rfl rfl ?_
  refine hq_putI 50 rfl (kP0 h_o) rfl ?_
  refine sp_aload_n 51 rfl rfl rfl ?_
  refine sp_iconst 52 rfl rfl ?_
  refine hq_putI 55 rfl (kP0 h_o) rfl ?_
  refine sp_aload_n 56 rfl rfl rfl ?_
  refine sp_iconst 57 rfl rfl ?_
  refine hq_putI 60 rfl (kP0 h_o) rfl ?_
  refine sp_aload_n 61 rfl rfl rfl ?_
  refine hq_getR 64 rfl (kP0 h_o) (rP5 h_o) rfl ?_
  refine sp_iconst 65 rfl rfl ?_
  refine sp_iconst 66 rfl rfl ?_
  have n1_ := k.1
  have k := k.2
  refine hq_iast 67 rfl (kP5 h_o) n1_ rfl ?_
  refine sp_aload_n 68 rfl rfl rfl ?_
  refine sp_iconst 69 rfl rfl ?_
  refine hq_putI 72 rfl (kP0 h_o) rfl ?_
  exact st_vret rfl rfl (Nat.le_refl _) (Nat.le_refl _) k
theorem sg_X5_settle {SL : Nat} {xs : Nat → Int32} {d : Nat} {p s q : Nat} {Q : Option Value → mm_H → Prop} {o : Nat} {I : Nat → Nat → Int32} {J : Nat → Nat → Int64} (h_o : isP o) (k : (((I o 0) ≤ Int32.ofInt 0 → Q none (hp p s q I J)) ∧ (¬ ((I o 0) ≤ Int32.ofInt 0) → (¬ (I o 0) = 0 ∧ (((I o 5) = (Int32.ofInt (-1)) → Q none (hp p s q (mm_u (mm_u I o 1 ((I o 1) - (I o 1) / (I o 0) * (I o 0))) o 5 (Int32.ofInt (-1))) J)) ∧ (¬ ((I o 5) = (Int32.ofInt (-1))) → Q none (hp p s q (mm_u (mm_u I o 1 ((I o 1) - (I o 1) / (I o 0) * (I o 0))) o 5 ((I o 5) - (I o 5) / (I o 0) * (I o 0))) J))))))) : mm_s SL xs (d + 1) 51 [.ref o] (hp p s q I J) Q := by
  refine e_X5_settle rfl ?_
  refine hs_L (L2 := [some (.ref o)]) rfl ?_
  refine sp_aload_n 1 rfl rfl rfl ?_
  refine hq_getI 4 rfl (kP0 h_o) rfl ?_
  refine sp_if_le 7 rfl rfl (fun q_ => ?_) (fun q_ => ?_)
  · have k := k.1 q_
    exact st_vret rfl rfl (Nat.le_refl _) (Nat.le_refl _) k
  · have k := k.2 q_
    refine sp_aload_n 8 rfl rfl rfl ?_
    refine sp_aload_n 9 rfl rfl rfl ?_
    refine hq_getI 12 rfl (kP0 h_o) rfl ?_
    refine sp_aload_n 13 rfl rfl rfl ?_
    refine hq_getI 16 rfl (kP0 h_o) rfl ?_
    have n1_ := k.1
    have k := k.2
    refine sp_irem 17 rfl n1_ rfl ?_
    refine hq_putI 20 rfl (kP0 h_o) rfl ?_
    refine sp_aload_n 21 rfl rfl rfl ?_
    refine sp_aload_n 22 rfl rfl rfl ?_
    refine hq_getI 25 rfl (kP0 h_o) rfl ?_
    refine sp_I (y := (I o 5)) (by simp [mm_u]) ?_
    refine sp_iconst 26 rfl rfl ?_
    refine sp_ic_ne 29 rfl rfl (fun q_ => ?_) (fun q_ => ?_)
    · have k := k.2 q_
      refine sp_aload_n 34 rfl rfl rfl ?_
      refine hq_getI 37 rfl (kP0 h_o) rfl ?_
      refine sp_I (y := (I o 5)) (by simp [mm_u]) ?_
      refine sp_aload_n 38 rfl rfl rfl ?_
      refine hq_getI 41 rfl (kP0 h_o) rfl ?_
      refine sp_I (y := (I o 0)) (by simp [mm_u]) ?_
      refine sp_irem 42 rfl n1_ rfl ?_
      refine hq_putI 45 rfl (kP0 h_o) rfl ?_
      exact st_vret rfl rfl (Nat.le_refl _) (Nat.le_refl _) k
    · have k := k.1 q_
      refine sp_iconst 30 rfl rfl ?_
      refine sp_goto rfl ?_
      refine hq_putI 45 rfl (kP0 h_o) rfl ?_
      exact st_vret rfl rfl (Nat.le_refl _) (Nat.le_refl _) k
