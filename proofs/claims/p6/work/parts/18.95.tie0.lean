theorem xPl_0 {l r b : Int32} {pn Td Nm Tb : Nat → Int32} {pt : Nat → Int64} : xPl false 0 l r b pn pt 0 l r b Td Nm Tb := ⟨rfl, rfl, rfl, rfl, ⟨by decide, by decide⟩, fun r hr => absurd hr (by have z : (0 : Int32).toNatClampNeg = 0 := (by decide); omega)⟩
theorem xTk_0 {rt K : Nat → Int32} : xTk 0 rt K := fun j hj => absurd hj (by have z : (0 : Int32).toInt = 0 := (by decide); omega)
