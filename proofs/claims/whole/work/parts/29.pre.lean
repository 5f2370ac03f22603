theorem zOk_ln {n : Nat} {as : List zV} (h : ∀ v ∈ as, zOk n v) (i : Nat) {a : Int} (hi : as[i]? = some (zl a)) : zLn a := h _ (List.mem_of_getElem? hi)
