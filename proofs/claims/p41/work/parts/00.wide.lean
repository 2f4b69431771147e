-- the round is read over the whole library from its first, small part on (else the long one behind is read twice)
theorem zz_w : k2_sels [] = [] := rfl
