/-! what a strip is at a time: of its clip's length and its parts (as strip() tells them) -/
def minI (x y : Int32) : Int32 := if y < x then y else x
def ticksS (len : Int32) (pt : Nat → Int32) : Int32 := len * pt 3
def timeOfS (pt : Nat → Int32) (tick : Int32) : Int32 := pt 1 + (tick * pt 6 + pt 5 - 1) / pt 5
def endS (len : Int32) (pt : Nat → Int32) : Int32 := timeOfS pt (ticksS len pt)
abbrev isOnS (len : Int32) (pt : Nat → Int32) (x : Int32) : Prop := pt 1 ≤ x ∧ (¬ pt 10 = 0 ∨ x < endS len pt)
abbrev backS (pt : Nat → Int32) (r : Int32) : Prop := pt 4 = 1 ∨ (pt 4 = 2 ∧ r - r / 2 * 2 = 1)
def tickS (len : Int32) (pt : Nat → Int32) (x : Int32) : Int32 := minI ((x - pt 1) * pt 5 / pt 6) (ticksS len pt)
def roundS (len : Int32) (pt : Nat → Int32) (x : Int32) : Int32 := minI (tickS len pt x / len) (pt 3 - 1)
def localS (len : Int32) (pt : Nat → Int32) (x : Int32) : Int32 :=
  if backS pt (roundS len pt x) then len - (tickS len pt x - roundS len pt x * len) else tickS len pt x - roundS len pt x * len
def str1 (pt : Nat → Int32) (x : Int32) : Int32 := if x - pt 1 < pt 11 then minI (pt 8) (rnd (pt 8 * (x - pt 1)).toInt64 (pt 11).toInt64) else pt 8
def strS (len : Int32) (pt : Nat → Int32) (x : Int32) : Int32 :=
  if pt 10 = 0 ∧ endS len pt - x < pt 12 then minI (str1 pt x) (rnd (pt 8 * (endS len pt - x)).toInt64 (pt 12).toInt64) else str1 pt x
def factS (len : Int32) (pt : Nat → Int32) (w : Nat) : Int32 := if w = 2 then endS len pt else pt w
/-- the fades are right where they are asked for -/
abbrev fadesOK (len : Int32) (pt : Nat → Int32) (x : Int32) : Prop := (x - pt 1 < pt 11 → dOK (pt 11)) ∧ (pt 10 = 0 → endS len pt - x < pt 12 → dOK (pt 12))
def blendS (len : Int32) (pt : Nat → Int32) (sz : Nat) (ft fv fe : Nat → Int32) (v x : Int32) : Int32 :=
  if sz = 0 then v else if isOnS len pt x then v + rnd ((if pt 9 = 0 then evT sz ft fv fe (localS len pt x) - v else evT sz ft fv fe (localS len pt x)).toInt64 * (strS len pt x).toInt64) 100 else v
def meetS (len : Int32) (pt : Nat → Int32) (r ct : Int32) : Int32 := timeOfS pt (r * len + (if backS pt r then len - ct else ct))
/-- the checksum of the notes that are kept -/
def dgN (f : Nat → Nat → Int32) (d : Int64) : Nat → Int64
  | 0 => d
  | k + 1 => mix (mix (mix (mix (dgN f d k) (f 0 k)) (f 1 k)) (f 2 k)) (f 3 k)
