def tzs (n : Nat) : Nat → Nat → Nat
  | 0, i => i
  | f + 1, i => if n.testBit i then i else tzs n f (i + 1)
/-- the lowest bit that is set, 64 if none is -/
def tz64 (x : Int64) : Int32 := Int32.ofInt (tzs x.toUInt64.toNat 64 0 : Nat)
theorem cz_tz64 {SL : Nat} {xs : Nat → Int32} {d : Nat} {h : mm_H} {Q : Option Value → mm_H → Prop} {x : Int64} (k : Q (some (.int (tz64 x))) h) : mm_s SL xs (d + 2) 275 [.long x] h Q := sorry
