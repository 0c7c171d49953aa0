noncomputable section
def xsyms (n : Nat) : List Value := [Value.retAddr 0, .retAddr 2, .retAddr 4, .retAddr 6, .retAddr 8].take n
def xfull : Int × Int := (-2147483648, 2147483647)
def xrg0 : xRG := [xfull, xfull, xfull, xfull, xfull]
def xret2 (lg : Bool) (a b : Option Value) : Bool := match a, b with
  | some (.int x), some (.int y) => !lg && decide (x = y)
  | some (.long x), some (.long y) => lg && decide (x = y)
  | _, _ => false
def xdisj : xRG → xRG → Bool
  | a :: l, b :: m => decide (a.2 < b.1) || (decide (b.2 < a.1) || xdisj l m)
  | _, _ => false
/-- the class's answer is the reference's, on fresh objects, whatever the numbers in these ranges are -/
def xpair (lg : Bool) (rg : xRG) (jx jm n : Nat) : Bool := match xexecQ xK 13 jx (.ref 0 :: xsyms n) xC0 rg with
  | none => false
  | some l => (match xexecQ xK 13 jm (.ref 0 :: xsyms n) xM0 rg with
    | none => false
    | some l2 => l.all fun lf => l2.all fun lf2 => xret2 lg lf.1 lf2.1 || xdisj lf.2.2 lf2.2.2)
set_option maxRecDepth 100000 in
theorem xp_set : xpair false xrg0 66 124 3 = true := by decide +kernel
set_option maxRecDepth 100000 in
theorem xp_house : xpair false xrg0 67 128 2 = true := by decide +kernel
set_option maxRecDepth 100000 in
theorem xp_bind : xpair false xrg0 68 130 3 = true := by decide +kernel
set_option maxRecDepth 100000 in
theorem xp_told : xpair false xrg0 69 131 2 = true := by decide +kernel
set_option maxRecDepth 100000 in
theorem xp_feed : xpair false xrg0 70 133 1 = true := by decide +kernel
set_option maxRecDepth 100000 in
theorem xp_text : xpair false xrg0 71 180 0 = true := by decide +kernel
set_option maxRecDepth 100000 in
theorem xp_force : xpair false xrg0 72 181 1 = true := by decide +kernel
set_option maxRecDepth 100000 in
theorem xp_asks : xpair false xrg0 73 187 3 = true := by decide +kernel
set_option maxRecDepth 100000 in
theorem xp_feast : xpair false xrg0 74 190 0 = true := by decide +kernel
set_option maxRecDepth 100000 in
theorem xp_year : xpair false xrg0 75 191 0 = true := by decide +kernel
set_option maxRecDepth 100000 in
theorem xp_street : xpair false xrg0 76 201 1 = true := by decide +kernel
set_option maxRecDepth 100000 in
theorem xp_way : xpair false xrg0 77 202 2 = true := by decide +kernel
set_option maxRecDepth 100000 in
theorem xp_best : xpair false xrg0 80 209 3 = true := by decide +kernel
set_option maxRecDepth 100000 in
theorem xp_missed : xpair false xrg0 83 214 1 = true := by decide +kernel
set_option maxRecDepth 100000 in
theorem xp_match : xpair false xrg0 84 215 1 = true := by decide +kernel
set_option maxRecDepth 100000 in
theorem xp_tells : xpair false xrg0 85 218 3 = true := by decide +kernel
set_option maxRecDepth 100000 in
theorem xp_film : xpair false xrg0 86 219 2 = true := by decide +kernel
set_option maxRecDepth 100000 in
theorem xp_image : xpair false xrg0 89 223 0 = true := by decide +kernel
set_option maxRecDepth 100000 in
theorem xp_back : xpair false xrg0 90 224 0 = true := by decide +kernel
set_option maxRecDepth 100000 in
theorem xp_count : xpair false xrg0 91 225 1 = true := by decide +kernel
set_option maxRecDepth 100000 in
theorem xp_sheet : xpair false xrg0 92 227 3 = true := by decide +kernel
set_option maxRecDepth 100000 in
theorem xp_cell : xpair false xrg0 93 228 3 = true := by decide +kernel
set_option maxRecDepth 100000 in
theorem xp_copy : xpair false xrg0 94 229 5 = true := by decide +kernel
set_option maxRecDepth 100000 in
theorem xp_houses : xpair false xrg0 95 230 4 = true := by decide +kernel
set_option maxRecDepth 100000 in
theorem xp_taken : xpair false xrg0 96 232 2 = true := by decide +kernel
end
