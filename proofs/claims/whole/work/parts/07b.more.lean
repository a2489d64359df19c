section A5
variable {ρ : Type} {V : ρ → Option Value} {g : AGl} {b : ABn} {pc : Nat} {lv lv2 : List (Option Value)} {st : List Value} {D : ADD} {K : Option (ρ × ADD)}
theorem A_to (kk : AT V g b pc lv2 st D K) (h : aLe lv2 lv) : AT V g b pc lv st D K := A_le h kk
end A5
