section GFT
theorem nm_col {f g a b nf mn : Nat → Int32} {n m z w : Nat} (h : txEq n f g) (hm : n = m) (kcN : z = colN f n) (krN : w = colN g m) (kcF : ∀ j, j < z → nf j = colF f n a j) (krF : ∀ j, j < w → mn j = colF g m b j) : ∀ j, j < z → nf j = mn j := by
  subst hm
  intro j hj
  have t := col_tie h a b
  rw [kcF j hj, krF j (by omega)]
  exact t.2.2 j (by omega)
theorem nm_pl {f g nf mn : Nat → Int32} {n m z w : Nat} (h : txEq n f g) (hm : n = m) (kcN : z = plW f n) (krN : w = plW g m) (kcF : ∀ j, j < z → nf j = nI (vlN (plB f n (plW f n)) (plW f n) 8 j)) (krF : ∀ j, j < w → mn j = nI (vlN (plB g m (plW g m)) (plW g m) 8 j)) : ∀ j, j < z → nf j = mn j := by
  subst hm
  intro j hj
  have t := (pl_tie h).1
  rw [kcF j hj, krF j (by omega), plv_tie h]
end GFT
