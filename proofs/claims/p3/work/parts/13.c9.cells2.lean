abbrev oAM (a : Nat) (c : ClassId) (n : Nat) (g : Nat → Nat) : Nat × va_E := (a, .inl (c, n, .inr (.inr (.inr (.inr (xmf n g))))))
