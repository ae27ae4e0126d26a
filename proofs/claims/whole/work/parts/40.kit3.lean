abbrev wZ (h zn zx zp zs zt zi : Nat) (S : SSt) : va_W := [(h, .inr (5, [.ref zn, .ref zx, .ref zp, .ref zs, .ref zt, .ref zi, .int (S 0), .int (S 1), .int (S 2)]))]
abbrev wP (h r : Nat) (S : SSt) : va_W := [(h, .inr (1, [.ref r, .int (S 0)]))]
