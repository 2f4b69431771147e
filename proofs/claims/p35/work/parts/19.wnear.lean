section GFW
/-- exclusive or of two of them -/
def xr (g : Nat → Int32) (i j : Nat) : Nat := (g i).toInt.toNat ^^^ (g j).toInt.toNat
end GFW
