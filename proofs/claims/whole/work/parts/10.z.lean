theorem i32_m1 : Int32.ofInt (-1) = (-1 : Int32) := by decide
theorem i32_1 : Int32.ofInt 1 = (1 : Int32) := by decide
theorem i32_5 : Int32.ofInt 5 = (5 : Int32) := by decide
theorem iinc_m1 (x : Int32) : x + Int32.ofInt (-1) = x + (-1 : Int32) := congrArg (fun z => x + z) i32_m1
theorem iinc_1 (x : Int32) : x + Int32.ofInt 1 = x + (1 : Int32) := congrArg (fun z => x + z) i32_1
theorem iinc_5 (x : Int32) : x + Int32.ofInt 5 = x + (5 : Int32) := congrArg (fun z => x + z) i32_5
theorem go_w {M : Mth} {d : Nat} {al : Bool} {bc bs pc : Nat} {lv : List (Option AV)} {st : List AV} {w w' : List AC} {Q : Option AV → List AC → Prop} (h : w = w') (k : Go M d al bc bs pc lv st w' Q) : Go M d al bc bs pc lv st w Q := h ▸ k
