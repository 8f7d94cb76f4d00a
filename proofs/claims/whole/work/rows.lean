section
-- ===== PART A: goes FIRST, ahead of the names: the tables' words, and 'selects' of the private methods out of them =====
/-- a private method of a class that the tables say can be made, by its rows of tables_1 -/
def lw_okq (q : MethodName × Nat) : Prop := (q.1.cls ≠ "java/lang/invoke/MethodHandle" ∧ q.1.cls ≠ "java/lang/invoke/VarHandle") ∧ Cond.instantiable q.1.cls q.2 ∈ tables_1 ∧ Cond.privateMethod q.1 ∈ tables_1 ∧ Cond.instanceMethod q.1 ∈ tables_1
theorem lw_p0 : lw_okq (⟨"SpreadNets", "netAt", "(I)LSpreadNets$Net;"⟩, 6) := ⟨⟨by decide +kernel, by decide +kernel⟩, List.mem_of_getElem? (i := 14) (by decide +kernel), List.mem_of_getElem? (i := 147) (by decide +kernel), List.mem_of_getElem? (i := 148) (by decide +kernel)⟩
theorem lw_p1 : lw_okq (⟨"SpreadNets$OwnNumbers", "fillTable", "(LSpreadNets$Net;I)V"⟩, 6) := ⟨⟨by decide +kernel, by decide +kernel⟩, List.mem_of_getElem? (i := 64) (by decide +kernel), List.mem_of_getElem? (i := 302) (by decide +kernel), List.mem_of_getElem? (i := 303) (by decide +kernel)⟩
theorem lw_p2 : lw_okq (⟨"SpreadNets$OwnNumbers", "findPolynomial", "()V"⟩, 6) := ⟨⟨by decide +kernel, by decide +kernel⟩, List.mem_of_getElem? (i := 64) (by decide +kernel), List.mem_of_getElem? (i := 307) (by decide +kernel), List.mem_of_getElem? (i := 308) (by decide +kernel)⟩
theorem lw_p3 : lw_okq (⟨"SpreadNets$OwnNumbers", "multiplyRows", "()J"⟩, 6) := ⟨⟨by decide +kernel, by decide +kernel⟩, List.mem_of_getElem? (i := 64) (by decide +kernel), List.mem_of_getElem? (i := 314) (by decide +kernel), List.mem_of_getElem? (i := 315) (by decide +kernel)⟩
theorem lw_p4 : lw_okq (⟨"SpreadNets$OwnNumbers", "addRow", "([J[JI)V"⟩, 6) := ⟨⟨by decide +kernel, by decide +kernel⟩, List.mem_of_getElem? (i := 64) (by decide +kernel), List.mem_of_getElem? (i := 318) (by decide +kernel), List.mem_of_getElem? (i := 319) (by decide +kernel)⟩
theorem lw_p5 : lw_okq (⟨"SpreadNets$OwnNumbers", "moveBy", "(I)V"⟩, 6) := ⟨⟨by decide +kernel, by decide +kernel⟩, List.mem_of_getElem? (i := 64) (by decide +kernel), List.mem_of_getElem? (i := 326) (by decide +kernel), List.mem_of_getElem? (i := 327) (by decide +kernel)⟩
theorem lw_p6 : lw_okq (⟨"SpreadNets", "leastSigning", "(LSpreadNets$Net;)I"⟩, 6) := ⟨⟨by decide +kernel, by decide +kernel⟩, List.mem_of_getElem? (i := 14) (by decide +kernel), List.mem_of_getElem? (i := 364) (by decide +kernel), List.mem_of_getElem? (i := 365) (by decide +kernel)⟩
theorem lw_p7 : lw_okq (⟨"SpreadNets", "lateForest", "(LSpreadNets$Net;)I"⟩, 6) := ⟨⟨by decide +kernel, by decide +kernel⟩, List.mem_of_getElem? (i := 14) (by decide +kernel), List.mem_of_getElem? (i := 368) (by decide +kernel), List.mem_of_getElem? (i := 369) (by decide +kernel)⟩
theorem lw_p8 : lw_okq (⟨"SpreadNets$WalkCounts", "step", "(LSpreadNets$Net;)V"⟩, 2) := ⟨⟨by decide +kernel, by decide +kernel⟩, List.mem_of_getElem? (i := 94) (by decide +kernel), List.mem_of_getElem? (i := 390) (by decide +kernel), List.mem_of_getElem? (i := 391) (by decide +kernel)⟩
theorem lw_p9 : lw_okq (⟨"SpreadNets$ApartWays", "openArcs", "(LSpreadNets$Net;II)V"⟩, 3) := ⟨⟨by decide +kernel, by decide +kernel⟩, List.mem_of_getElem? (i := 108) (by decide +kernel), List.mem_of_getElem? (i := 422) (by decide +kernel), List.mem_of_getElem? (i := 423) (by decide +kernel)⟩
theorem lw_p10 : lw_okq (⟨"SpreadNets$ApartWays", "findWay", "()Z"⟩, 3) := ⟨⟨by decide +kernel, by decide +kernel⟩, List.mem_of_getElem? (i := 108) (by decide +kernel), List.mem_of_getElem? (i := 427) (by decide +kernel), List.mem_of_getElem? (i := 428) (by decide +kernel)⟩
theorem lw_p11 : lw_okq (⟨"SpreadNets$ApartWays", "takeWay", "()V"⟩, 3) := ⟨⟨by decide +kernel, by decide +kernel⟩, List.mem_of_getElem? (i := 108) (by decide +kernel), List.mem_of_getElem? (i := 432) (by decide +kernel), List.mem_of_getElem? (i := 433) (by decide +kernel)⟩
theorem lw_p12 : lw_okq (⟨"SpreadNetsModel", "begin", "(II)V"⟩, 22) := ⟨⟨by decide +kernel, by decide +kernel⟩, List.mem_of_getElem? (i := 482) (by decide +kernel), List.mem_of_getElem? (i := 565) (by decide +kernel), List.mem_of_getElem? (i := 566) (by decide +kernel)⟩
theorem lw_p13 : lw_okq (⟨"SpreadNetsModel", "isKnot", "(II)Z"⟩, 22) := ⟨⟨by decide +kernel, by decide +kernel⟩, List.mem_of_getElem? (i := 482) (by decide +kernel), List.mem_of_getElem? (i := 573) (by decide +kernel), List.mem_of_getElem? (i := 574) (by decide +kernel)⟩
theorem lw_p14 : lw_okq (⟨"SpreadNetsModel", "has", "(III)Z"⟩, 22) := ⟨⟨by decide +kernel, by decide +kernel⟩, List.mem_of_getElem? (i := 482) (by decide +kernel), List.mem_of_getElem? (i := 577) (by decide +kernel), List.mem_of_getElem? (i := 578) (by decide +kernel)⟩
theorem lw_p15 : lw_okq (⟨"SpreadNetsModel", "put", "(III)V"⟩, 22) := ⟨⟨by decide +kernel, by decide +kernel⟩, List.mem_of_getElem? (i := 482) (by decide +kernel), List.mem_of_getElem? (i := 585) (by decide +kernel), List.mem_of_getElem? (i := 586) (by decide +kernel)⟩
def lw_privs_1 : List (MethodName × Nat) := [(⟨"SpreadNets", "netAt", "(I)LSpreadNets$Net;"⟩, 6), (⟨"SpreadNets$OwnNumbers", "fillTable", "(LSpreadNets$Net;I)V"⟩, 6), (⟨"SpreadNets$OwnNumbers", "findPolynomial", "()V"⟩, 6), (⟨"SpreadNets$OwnNumbers", "multiplyRows", "()J"⟩, 6), (⟨"SpreadNets$OwnNumbers", "addRow", "([J[JI)V"⟩, 6), (⟨"SpreadNets$OwnNumbers", "moveBy", "(I)V"⟩, 6), (⟨"SpreadNets", "leastSigning", "(LSpreadNets$Net;)I"⟩, 6), (⟨"SpreadNets", "lateForest", "(LSpreadNets$Net;)I"⟩, 6), (⟨"SpreadNets$WalkCounts", "step", "(LSpreadNets$Net;)V"⟩, 2), (⟨"SpreadNets$ApartWays", "openArcs", "(LSpreadNets$Net;II)V"⟩, 3), (⟨"SpreadNets$ApartWays", "findWay", "()Z"⟩, 3), (⟨"SpreadNets$ApartWays", "takeWay", "()V"⟩, 3), (⟨"SpreadNetsModel", "begin", "(II)V"⟩, 22), (⟨"SpreadNetsModel", "isKnot", "(II)Z"⟩, 22), (⟨"SpreadNetsModel", "has", "(III)Z"⟩, 22), (⟨"SpreadNetsModel", "put", "(III)V"⟩, 22)]
theorem lw_r1 : ∀ q ∈ lw_privs_1, lw_okq q := List.forall_mem_cons.mpr ⟨lw_p0, List.forall_mem_cons.mpr ⟨lw_p1, List.forall_mem_cons.mpr ⟨lw_p2, List.forall_mem_cons.mpr ⟨lw_p3, List.forall_mem_cons.mpr ⟨lw_p4, List.forall_mem_cons.mpr ⟨lw_p5, List.forall_mem_cons.mpr ⟨lw_p6, List.forall_mem_cons.mpr ⟨lw_p7, List.forall_mem_cons.mpr ⟨lw_p8, List.forall_mem_cons.mpr ⟨lw_p9, List.forall_mem_cons.mpr ⟨lw_p10, List.forall_mem_cons.mpr ⟨lw_p11, List.forall_mem_cons.mpr ⟨lw_p12, List.forall_mem_cons.mpr ⟨lw_p13, List.forall_mem_cons.mpr ⟨lw_p14, List.forall_mem_cons.mpr ⟨lw_p15, fun _ h => absurd h List.not_mem_nil⟩⟩⟩⟩⟩⟩⟩⟩⟩⟩⟩⟩⟩⟩⟩⟩
theorem lw_p16 : lw_okq (⟨"SpreadNetsModel", "lines", "(I)I"⟩, 22) := ⟨⟨by decide +kernel, by decide +kernel⟩, List.mem_of_getElem? (i := 482) (by decide +kernel), List.mem_of_getElem? (i := 589) (by decide +kernel), List.mem_of_getElem? (i := 590) (by decide +kernel)⟩
theorem lw_p17 : lw_okq (⟨"SpreadNetsModel", "degreeOf", "(I)I"⟩, 22) := ⟨⟨by decide +kernel, by decide +kernel⟩, List.mem_of_getElem? (i := 482) (by decide +kernel), List.mem_of_getElem? (i := 608) (by decide +kernel), List.mem_of_getElem? (i := 609) (by decide +kernel)⟩
theorem lw_p18 : lw_okq (⟨"SpreadNetsModel", "parts", "(I)I"⟩, 22) := ⟨⟨by decide +kernel, by decide +kernel⟩, List.mem_of_getElem? (i := 482) (by decide +kernel), List.mem_of_getElem? (i := 612) (by decide +kernel), List.mem_of_getElem? (i := 613) (by decide +kernel)⟩
theorem lw_p19 : lw_okq (⟨"SpreadNetsModel", "grown", "(II)I"⟩, 22) := ⟨⟨by decide +kernel, by decide +kernel⟩, List.mem_of_getElem? (i := 482) (by decide +kernel), List.mem_of_getElem? (i := 616) (by decide +kernel), List.mem_of_getElem? (i := 617) (by decide +kernel)⟩
theorem lw_p20 : lw_okq (⟨"SpreadNetsModel", "layLines", "(I)V"⟩, 22) := ⟨⟨by decide +kernel, by decide +kernel⟩, List.mem_of_getElem? (i := 482) (by decide +kernel), List.mem_of_getElem? (i := 628) (by decide +kernel), List.mem_of_getElem? (i := 629) (by decide +kernel)⟩
theorem lw_p21 : lw_okq (⟨"SpreadNetsModel", "outside", "(IIZ)I"⟩, 22) := ⟨⟨by decide +kernel, by decide +kernel⟩, List.mem_of_getElem? (i := 482) (by decide +kernel), List.mem_of_getElem? (i := 636) (by decide +kernel), List.mem_of_getElem? (i := 637) (by decide +kernel)⟩
theorem lw_p22 : lw_okq (⟨"SpreadNetsModel", "isAsked", "(III)Z"⟩, 22) := ⟨⟨by decide +kernel, by decide +kernel⟩, List.mem_of_getElem? (i := 482) (by decide +kernel), List.mem_of_getElem? (i := 644) (by decide +kernel), List.mem_of_getElem? (i := 645) (by decide +kernel)⟩
theorem lw_p23 : lw_okq (⟨"SpreadNetsModel", "layOwn", "(II)V"⟩, 22) := ⟨⟨by decide +kernel, by decide +kernel⟩, List.mem_of_getElem? (i := 482) (by decide +kernel), List.mem_of_getElem? (i := 648) (by decide +kernel), List.mem_of_getElem? (i := 649) (by decide +kernel)⟩
theorem lw_p24 : lw_okq (⟨"SpreadNetsModel", "layTable", "(II)V"⟩, 22) := ⟨⟨by decide +kernel, by decide +kernel⟩, List.mem_of_getElem? (i := 482) (by decide +kernel), List.mem_of_getElem? (i := 652) (by decide +kernel), List.mem_of_getElem? (i := 653) (by decide +kernel)⟩
theorem lw_p25 : lw_okq (⟨"SpreadNetsModel", "layPolynomial", "(I)V"⟩, 22) := ⟨⟨by decide +kernel, by decide +kernel⟩, List.mem_of_getElem? (i := 482) (by decide +kernel), List.mem_of_getElem? (i := 657) (by decide +kernel), List.mem_of_getElem? (i := 658) (by decide +kernel)⟩
theorem lw_p26 : lw_okq (⟨"SpreadNetsModel", "aboveOf", "(II)I"⟩, 22) := ⟨⟨by decide +kernel, by decide +kernel⟩, List.mem_of_getElem? (i := 482) (by decide +kernel), List.mem_of_getElem? (i := 661) (by decide +kernel), List.mem_of_getElem? (i := 662) (by decide +kernel)⟩
theorem lw_p27 : lw_okq (⟨"SpreadNetsModel", "move", "(II)V"⟩, 22) := ⟨⟨by decide +kernel, by decide +kernel⟩, List.mem_of_getElem? (i := 482) (by decide +kernel), List.mem_of_getElem? (i := 665) (by decide +kernel), List.mem_of_getElem? (i := 666) (by decide +kernel)⟩
theorem lw_p28 : lw_okq (⟨"SpreadNetsModel", "justOf", "(II)I"⟩, 22) := ⟨⟨by decide +kernel, by decide +kernel⟩, List.mem_of_getElem? (i := 482) (by decide +kernel), List.mem_of_getElem? (i := 674) (by decide +kernel), List.mem_of_getElem? (i := 675) (by decide +kernel)⟩
theorem lw_p29 : lw_okq (⟨"SpreadNetsModel", "spanOf", "(II)I"⟩, 22) := ⟨⟨by decide +kernel, by decide +kernel⟩, List.mem_of_getElem? (i := 482) (by decide +kernel), List.mem_of_getElem? (i := 686) (by decide +kernel), List.mem_of_getElem? (i := 687) (by decide +kernel)⟩
theorem lw_p30 : lw_okq (⟨"SpreadNetsModel", "layWalks", "(III)V"⟩, 22) := ⟨⟨by decide +kernel, by decide +kernel⟩, List.mem_of_getElem? (i := 482) (by decide +kernel), List.mem_of_getElem? (i := 699) (by decide +kernel), List.mem_of_getElem? (i := 700) (by decide +kernel)⟩
theorem lw_p31 : lw_okq (⟨"SpreadNetsModel", "oneMore", "(III)Z"⟩, 22) := ⟨⟨by decide +kernel, by decide +kernel⟩, List.mem_of_getElem? (i := 482) (by decide +kernel), List.mem_of_getElem? (i := 712) (by decide +kernel), List.mem_of_getElem? (i := 713) (by decide +kernel)⟩
def lw_privs_2 : List (MethodName × Nat) := [(⟨"SpreadNetsModel", "lines", "(I)I"⟩, 22), (⟨"SpreadNetsModel", "degreeOf", "(I)I"⟩, 22), (⟨"SpreadNetsModel", "parts", "(I)I"⟩, 22), (⟨"SpreadNetsModel", "grown", "(II)I"⟩, 22), (⟨"SpreadNetsModel", "layLines", "(I)V"⟩, 22), (⟨"SpreadNetsModel", "outside", "(IIZ)I"⟩, 22), (⟨"SpreadNetsModel", "isAsked", "(III)Z"⟩, 22), (⟨"SpreadNetsModel", "layOwn", "(II)V"⟩, 22), (⟨"SpreadNetsModel", "layTable", "(II)V"⟩, 22), (⟨"SpreadNetsModel", "layPolynomial", "(I)V"⟩, 22), (⟨"SpreadNetsModel", "aboveOf", "(II)I"⟩, 22), (⟨"SpreadNetsModel", "move", "(II)V"⟩, 22), (⟨"SpreadNetsModel", "justOf", "(II)I"⟩, 22), (⟨"SpreadNetsModel", "spanOf", "(II)I"⟩, 22), (⟨"SpreadNetsModel", "layWalks", "(III)V"⟩, 22), (⟨"SpreadNetsModel", "oneMore", "(III)Z"⟩, 22)]
theorem lw_r2 : ∀ q ∈ lw_privs_2, lw_okq q := List.forall_mem_cons.mpr ⟨lw_p16, List.forall_mem_cons.mpr ⟨lw_p17, List.forall_mem_cons.mpr ⟨lw_p18, List.forall_mem_cons.mpr ⟨lw_p19, List.forall_mem_cons.mpr ⟨lw_p20, List.forall_mem_cons.mpr ⟨lw_p21, List.forall_mem_cons.mpr ⟨lw_p22, List.forall_mem_cons.mpr ⟨lw_p23, List.forall_mem_cons.mpr ⟨lw_p24, List.forall_mem_cons.mpr ⟨lw_p25, List.forall_mem_cons.mpr ⟨lw_p26, List.forall_mem_cons.mpr ⟨lw_p27, List.forall_mem_cons.mpr ⟨lw_p28, List.forall_mem_cons.mpr ⟨lw_p29, List.forall_mem_cons.mpr ⟨lw_p30, List.forall_mem_cons.mpr ⟨lw_p31, fun _ h => absurd h List.not_mem_nil⟩⟩⟩⟩⟩⟩⟩⟩⟩⟩⟩⟩⟩⟩⟩⟩
theorem lw_p32 : lw_okq (⟨"SpreadNetsModel", "see", "(II)V"⟩, 22) := ⟨⟨by decide +kernel, by decide +kernel⟩, List.mem_of_getElem? (i := 482) (by decide +kernel), List.mem_of_getElem? (i := 716) (by decide +kernel), List.mem_of_getElem? (i := 717) (by decide +kernel)⟩
theorem lw_p33 : lw_okq (⟨"SpreadNetsModel", "isUsed", "(I)Z"⟩, 22) := ⟨⟨by decide +kernel, by decide +kernel⟩, List.mem_of_getElem? (i := 482) (by decide +kernel), List.mem_of_getElem? (i := 720) (by decide +kernel), List.mem_of_getElem? (i := 721) (by decide +kernel)⟩
theorem lw_p34 : lw_okq (⟨"SpreadNetsModel", "lay", "(I)V"⟩, 22) := ⟨⟨by decide +kernel, by decide +kernel⟩, List.mem_of_getElem? (i := 482) (by decide +kernel), List.mem_of_getElem? (i := 724) (by decide +kernel), List.mem_of_getElem? (i := 725) (by decide +kernel)⟩
theorem lw_p35 : lw_okq (⟨"SpreadNetsModel", "distanceOf", "(IIII)I"⟩, 22) := ⟨⟨by decide +kernel, by decide +kernel⟩, List.mem_of_getElem? (i := 482) (by decide +kernel), List.mem_of_getElem? (i := 732) (by decide +kernel), List.mem_of_getElem? (i := 733) (by decide +kernel)⟩
theorem lw_p36 : lw_okq (⟨"SpreadNetsModel", "isWord", "(IJ)Z"⟩, 22) := ⟨⟨by decide +kernel, by decide +kernel⟩, List.mem_of_getElem? (i := 482) (by decide +kernel), List.mem_of_getElem? (i := 744) (by decide +kernel), List.mem_of_getElem? (i := 745) (by decide +kernel)⟩
theorem lw_p37 : lw_okq (⟨"SpreadNetsModel", "oddOnes", "(J)I"⟩, 22) := ⟨⟨by decide +kernel, by decide +kernel⟩, List.mem_of_getElem? (i := 482) (by decide +kernel), List.mem_of_getElem? (i := 748) (by decide +kernel), List.mem_of_getElem? (i := 749) (by decide +kernel)⟩
def lw_privs_3 : List (MethodName × Nat) := [(⟨"SpreadNetsModel", "see", "(II)V"⟩, 22), (⟨"SpreadNetsModel", "isUsed", "(I)Z"⟩, 22), (⟨"SpreadNetsModel", "lay", "(I)V"⟩, 22), (⟨"SpreadNetsModel", "distanceOf", "(IIII)I"⟩, 22), (⟨"SpreadNetsModel", "isWord", "(IJ)Z"⟩, 22), (⟨"SpreadNetsModel", "oddOnes", "(J)I"⟩, 22)]
theorem lw_r3 : ∀ q ∈ lw_privs_3, lw_okq q := List.forall_mem_cons.mpr ⟨lw_p32, List.forall_mem_cons.mpr ⟨lw_p33, List.forall_mem_cons.mpr ⟨lw_p34, List.forall_mem_cons.mpr ⟨lw_p35, List.forall_mem_cons.mpr ⟨lw_p36, List.forall_mem_cons.mpr ⟨lw_p37, fun _ h => absurd h List.not_mem_nil⟩⟩⟩⟩⟩⟩
def lw_privs : List (MethodName × Nat) := lw_privs_1 ++ (lw_privs_2 ++ (lw_privs_3))
def lw_tbl : List Cond := k2_sels lw_privs ++ tables_1
theorem lw_privs_ok : ∀ q ∈ lw_privs, lw_okq q := by
  show ∀ q ∈ lw_privs_1 ++ (lw_privs_2 ++ (lw_privs_3)), lw_okq q
  exact List.forall_mem_append.mpr ⟨lw_r1, List.forall_mem_append.mpr ⟨lw_r2, lw_r3⟩⟩
end
section
def RX0 : String := "SpreadNets$ApartWays"
def TX0 : u_T := fun k => match k with
  | 0 => ("SpreadNets$ApartWays", "open", "[I", true)
  | 1 => ("SpreadNets$ApartWays", "cameFrom", "[I", true)
  | _ => ("SpreadNets$ApartWays", "queue", "[I", true)
def tyX0 : Nat → FieldType := fun k => match k with
  | 0 => .array .int
  | 1 => .array .int
  | _ => .array .int
abbrev wsX00 : List Cond := u_ws RX0 TX0 3
theorem nmX0 : ∀ a, a < 3 → ∀ b, b < 3 → a ≠ b → (TX0 a).2.1 ≠ (TX0 b).2.1 := by decide +kernel
theorem tyX0_ok : ∀ k, k < 3 → parseFieldDescriptor (TX0 k).2.2.1 = some (tyX0 k) := by decide +kernel
abbrev cX0_init : ByteArray := prog_2_method_1_code
def yX0_init : MethodName := ⟨RX0, "<init>", "()V"⟩
abbrev cX0_most : ByteArray := prog_2_method_2_code
def yX0_most : MethodName := ⟨RX0, "most", "(LSpreadNets$Net;II)I"⟩
abbrev cX0_openArcs : ByteArray := prog_2_method_3_code
def yX0_openArcs : MethodName := ⟨RX0, "openArcs", "(LSpreadNets$Net;II)V"⟩
abbrev cX0_findWay : ByteArray := prog_2_method_4_code
def yX0_findWay : MethodName := ⟨RX0, "findWay", "()Z"⟩
abbrev cX0_takeWay : ByteArray := prog_2_method_5_code
def yX0_takeWay : MethodName := ⟨RX0, "takeWay", "()V"⟩
def RX1 : String := "SpreadNets$Growth"
def TX1 : u_T := fun k => match k with
  | 0 => ("SpreadNets$Growth", "above", "I", false)
  | 1 => ("SpreadNets$Growth", "inside", "I", false)
  | _ => ("SpreadNets$Growth", "set", "I", false)
def tyX1 : Nat → FieldType := fun k => match k with
  | 0 => .int
  | 1 => .int
  | _ => .int
abbrev wsX10 : List Cond := u_ws RX1 TX1 3
theorem nmX1 : ∀ a, a < 3 → ∀ b, b < 3 → a ≠ b → (TX1 a).2.1 ≠ (TX1 b).2.1 := by decide +kernel
theorem tyX1_ok : ∀ k, k < 3 → parseFieldDescriptor (TX1 k).2.2.1 = some (tyX1 k) := by decide +kernel
abbrev cX1_init : ByteArray := prog_3_method_1_code
def yX1_init : MethodName := ⟨RX1, "<init>", "()V"⟩
abbrev cX1_seek : ByteArray := prog_3_method_2_code
def yX1_seek : MethodName := ⟨RX1, "seek", "(LSpreadNets$Net;Z)V"⟩
abbrev cX1_knotsOut : ByteArray := prog_3_method_3_code
def yX1_knotsOut : MethodName := ⟨RX1, "knotsOut", "(LSpreadNets$Net;I)I"⟩
abbrev cX1_linesOut : ByteArray := prog_3_method_4_code
def yX1_linesOut : MethodName := ⟨RX1, "linesOut", "(LSpreadNets$Net;I)I"⟩
def RX2 : String := "SpreadNets$Net"
def TX2 : u_T := fun k => match k with
  | 0 => ("SpreadNets$Net", "knots", "I", false)
  | _ => ("SpreadNets$Net", "beside", "[I", true)
def tyX2 : Nat → FieldType := fun k => match k with
  | 0 => .int
  | _ => .array .int
abbrev wsX20 : List Cond := u_ws RX2 TX2 2
theorem nmX2 : ∀ a, a < 2 → ∀ b, b < 2 → a ≠ b → (TX2 a).2.1 ≠ (TX2 b).2.1 := by decide +kernel
theorem tyX2_ok : ∀ k, k < 2 → parseFieldDescriptor (TX2 k).2.2.1 = some (tyX2 k) := by decide +kernel
abbrev cX2_init : ByteArray := prog_4_method_1_code
def yX2_init : MethodName := ⟨RX2, "<init>", "()V"⟩
abbrev cX2_hasKnot : ByteArray := prog_4_method_2_code
def yX2_hasKnot : MethodName := ⟨RX2, "hasKnot", "(I)Z"⟩
abbrev cX2_hasKnots : ByteArray := prog_4_method_3_code
def yX2_hasKnots : MethodName := ⟨RX2, "hasKnots", "(II)Z"⟩
abbrev cX2_hasUnlikeKnots : ByteArray := prog_4_method_4_code
def yX2_hasUnlikeKnots : MethodName := ⟨RX2, "hasUnlikeKnots", "(II)Z"⟩
abbrev cX2_hasSet : ByteArray := prog_4_method_5_code
def yX2_hasSet : MethodName := ⟨RX2, "hasSet", "(I)Z"⟩
abbrev cX2_hasWord : ByteArray := prog_4_method_6_code
def yX2_hasWord : MethodName := ⟨RX2, "hasWord", "(J)Z"⟩
abbrev cX2_joins : ByteArray := prog_4_method_7_code
def yX2_joins : MethodName := ⟨RX2, "joins", "(II)Z"⟩
abbrev cX2_startWith : ByteArray := prog_4_method_8_code
def yX2_startWith : MethodName := ⟨RX2, "startWith", "(I)V"⟩
abbrev cX2_join : ByteArray := prog_4_method_9_code
def yX2_join : MethodName := ⟨RX2, "join", "(II)V"⟩
abbrev cX2_change : ByteArray := prog_4_method_10_code
def yX2_change : MethodName := ⟨RX2, "change", "(II)V"⟩
abbrev cX2_becomeCopy : ByteArray := prog_4_method_11_code
def yX2_becomeCopy : MethodName := ⟨RX2, "becomeCopy", "(LSpreadNets$Net;)V"⟩
abbrev cX2_becomeRing : ByteArray := prog_4_method_12_code
def yX2_becomeRing : MethodName := ⟨RX2, "becomeRing", "(II)V"⟩
abbrev cX2_becomeProduct : ByteArray := prog_4_method_13_code
def yX2_becomeProduct : MethodName := ⟨RX2, "becomeProduct", "(LSpreadNets$Net;LSpreadNets$Net;)V"⟩
abbrev cX2_becomeTurned : ByteArray := prog_4_method_14_code
def yX2_becomeTurned : MethodName := ⟨RX2, "becomeTurned", "(LSpreadNets$Net;)V"⟩
abbrev cX2_degree : ByteArray := prog_4_method_15_code
def yX2_degree : MethodName := ⟨RX2, "degree", "(I)I"⟩
abbrev cX2_lineCount : ByteArray := prog_4_method_16_code
def yX2_lineCount : MethodName := ⟨RX2, "lineCount", "()I"⟩
abbrev cX2_evenDegree : ByteArray := prog_4_method_17_code
def yX2_evenDegree : MethodName := ⟨RX2, "evenDegree", "()I"⟩
abbrev cX2_partCount : ByteArray := prog_4_method_18_code
def yX2_partCount : MethodName := ⟨RX2, "partCount", "()I"⟩
abbrev cX2_partOf : ByteArray := prog_4_method_19_code
def yX2_partOf : MethodName := ⟨RX2, "partOf", "(I)I"⟩
abbrev cX2_besideSet : ByteArray := prog_4_method_20_code
def yX2_besideSet : MethodName := ⟨RX2, "besideSet", "(I)I"⟩
abbrev cX2_lineNumber : ByteArray := prog_4_method_21_code
def yX2_lineNumber : MethodName := ⟨RX2, "lineNumber", "(II)I"⟩
abbrev cX2_fewestLines : ByteArray := prog_4_method_22_code
def yX2_fewestLines : MethodName := ⟨RX2, "fewestLines", "(IIZ)I"⟩
abbrev cX2_shortestRound : ByteArray := prog_4_method_23_code
def yX2_shortestRound : MethodName := ⟨RX2, "shortestRound", "()I"⟩
abbrev cX2_oddKnots : ByteArray := prog_4_method_24_code
def yX2_oddKnots : MethodName := ⟨RX2, "oddKnots", "(J)I"⟩
abbrev cX2_flipBack : ByteArray := prog_4_method_25_code
def yX2_flipBack : MethodName := ⟨RX2, "flipBack", "(J)J"⟩
abbrev cX2_addTo : ByteArray := prog_4_method_26_code
def yX2_addTo : MethodName := ⟨RX2, "addTo", "(J)J"⟩
def RX3 : String := "SpreadNets$OwnNumbers"
def TX3 : u_T := fun k => match k with
  | 0 => ("SpreadNets$OwnNumbers", "knots", "I", false)
  | 1 => ("SpreadNets$OwnNumbers", "table", "[[I", true)
  | 2 => ("SpreadNets$OwnNumbers", "rows", "[[J", false)
  | 3 => ("SpreadNets$OwnNumbers", "nextRows", "[[J", false)
  | 4 => ("SpreadNets$OwnNumbers", "polynomial", "[J", true)
  | _ => ("SpreadNets$OwnNumbers", "moved", "[J", true)
def tyX3 : Nat → FieldType := fun k => match k with
  | 0 => .int
  | 1 => .array (.array .int)
  | 2 => .array (.array .long)
  | 3 => .array (.array .long)
  | 4 => .array .long
  | _ => .array .long
abbrev wsX30 : List Cond := u_ws RX3 TX3 6
theorem nmX3 : ∀ a, a < 6 → ∀ b, b < 6 → a ≠ b → (TX3 a).2.1 ≠ (TX3 b).2.1 := by decide +kernel
theorem tyX3_ok : ∀ k, k < 6 → parseFieldDescriptor (TX3 k).2.2.1 = some (tyX3 k) := by decide +kernel
abbrev cX3_init : ByteArray := prog_5_method_1_code
def yX3_init : MethodName := ⟨RX3, "<init>", "()V"⟩
abbrev cX3_read : ByteArray := prog_5_method_2_code
def yX3_read : MethodName := ⟨RX3, "read", "(LSpreadNets$Net;I)V"⟩
abbrev cX3_countAbove : ByteArray := prog_5_method_3_code
def yX3_countAbove : MethodName := ⟨RX3, "countAbove", "(I)I"⟩
abbrev cX3_countAt : ByteArray := prog_5_method_4_code
def yX3_countAt : MethodName := ⟨RX3, "countAt", "(I)I"⟩
abbrev cX3_countBelow : ByteArray := prog_5_method_5_code
def yX3_countBelow : MethodName := ⟨RX3, "countBelow", "(I)I"⟩
abbrev cX3_width : ByteArray := prog_5_method_6_code
def yX3_width : MethodName := ⟨RX3, "width", "()I"⟩
abbrev cX3_fillTable : ByteArray := prog_5_method_7_code
def yX3_fillTable : MethodName := ⟨RX3, "fillTable", "(LSpreadNets$Net;I)V"⟩
abbrev cX3_findPolynomial : ByteArray := prog_5_method_8_code
def yX3_findPolynomial : MethodName := ⟨RX3, "findPolynomial", "()V"⟩
abbrev cX3_multiplyRows : ByteArray := prog_5_method_9_code
def yX3_multiplyRows : MethodName := ⟨RX3, "multiplyRows", "()J"⟩
abbrev cX3_addRow : ByteArray := prog_5_method_10_code
def yX3_addRow : MethodName := ⟨RX3, "addRow", "([J[JI)V"⟩
abbrev cX3_moveBy : ByteArray := prog_5_method_11_code
def yX3_moveBy : MethodName := ⟨RX3, "moveBy", "(I)V"⟩
def RX4 : String := "SpreadNets$WalkCounts"
def TX4 : u_T := fun k => match k with
  | 0 => ("SpreadNets$WalkCounts", "ending", "[J", false)
  | _ => ("SpreadNets$WalkCounts", "before", "[J", false)
def tyX4 : Nat → FieldType := fun k => match k with
  | 0 => .array .long
  | _ => .array .long
abbrev wsX40 : List Cond := u_ws RX4 TX4 2
theorem nmX4 : ∀ a, a < 2 → ∀ b, b < 2 → a ≠ b → (TX4 a).2.1 ≠ (TX4 b).2.1 := by decide +kernel
theorem tyX4_ok : ∀ k, k < 2 → parseFieldDescriptor (TX4 k).2.2.1 = some (tyX4 k) := by decide +kernel
abbrev cX4_init : ByteArray := prog_6_method_1_code
def yX4_init : MethodName := ⟨RX4, "<init>", "()V"⟩
abbrev cX4_walk : ByteArray := prog_6_method_2_code
def yX4_walk : MethodName := ⟨RX4, "walk", "(LSpreadNets$Net;II)V"⟩
abbrev cX4_unevenness : ByteArray := prog_6_method_3_code
def yX4_unevenness : MethodName := ⟨RX4, "unevenness", "(IJ)J"⟩
abbrev cX4_step : ByteArray := prog_6_method_4_code
def yX4_step : MethodName := ⟨RX4, "step", "(LSpreadNets$Net;)V"⟩
def RX5 : String := "SpreadNets"
def TX5 : u_T := fun k => match k with
  | 0 => ("SpreadNets", "nets", "[LSpreadNets$Net;", true)
  | 1 => ("SpreadNets", "spare", "LSpreadNets$Net;", true)
  | 2 => ("SpreadNets", "grown", "LSpreadNets$Growth;", true)
  | 3 => ("SpreadNets", "own", "LSpreadNets$OwnNumbers;", true)
  | 4 => ("SpreadNets", "counts", "LSpreadNets$WalkCounts;", true)
  | _ => ("SpreadNets", "ways", "LSpreadNets$ApartWays;", true)
def tyX5 : Nat → FieldType := fun k => match k with
  | 0 => .array (.object "SpreadNets$Net")
  | 1 => .object "SpreadNets$Net"
  | 2 => .object "SpreadNets$Growth"
  | 3 => .object "SpreadNets$OwnNumbers"
  | 4 => .object "SpreadNets$WalkCounts"
  | _ => .object "SpreadNets$ApartWays"
abbrev wsX50 : List Cond := u_ws RX5 TX5 6
theorem nmX5 : ∀ a, a < 6 → ∀ b, b < 6 → a ≠ b → (TX5 a).2.1 ≠ (TX5 b).2.1 := by decide +kernel
theorem tyX5_ok : ∀ k, k < 6 → parseFieldDescriptor (TX5 k).2.2.1 = some (tyX5 k) := by decide +kernel
abbrev cX5_init : ByteArray := prog_1_method_1_code
def yX5_init : MethodName := ⟨RX5, "<init>", "()V"⟩
abbrev cX5_net : ByteArray := prog_1_method_2_code
def yX5_net : MethodName := ⟨RX5, "net", "(II)I"⟩
abbrev cX5_line : ByteArray := prog_1_method_3_code
def yX5_line : MethodName := ⟨RX5, "line", "(IIIZ)I"⟩
abbrev cX5_ring : ByteArray := prog_1_method_4_code
def yX5_ring : MethodName := ⟨RX5, "ring", "(III)I"⟩
abbrev cX5_product : ByteArray := prog_1_method_5_code
def yX5_product : MethodName := ⟨RX5, "product", "(III)I"⟩
abbrev cX5_turned : ByteArray := prog_1_method_6_code
def yX5_turned : MethodName := ⟨RX5, "turned", "(II)I"⟩
abbrev cX5_about : ByteArray := prog_1_method_7_code
def yX5_about : MethodName := ⟨RX5, "about", "(II)I"⟩
abbrev cX5_near : ByteArray := prog_1_method_8_code
def yX5_near : MethodName := ⟨RX5, "near", "(II)I"⟩
abbrev cX5_number : ByteArray := prog_1_method_9_code
def yX5_number : MethodName := ⟨RX5, "number", "(III)I"⟩
abbrev cX5_growth : ByteArray := prog_1_method_10_code
def yX5_growth : MethodName := ⟨RX5, "growth", "(IZI)I"⟩
abbrev cX5_more : ByteArray := prog_1_method_11_code
def yX5_more : MethodName := ⟨RX5, "more", "(III)I"⟩
abbrev cX5_just : ByteArray := prog_1_method_12_code
def yX5_just : MethodName := ⟨RX5, "just", "(III)I"⟩
abbrev cX5_second : ByteArray := prog_1_method_13_code
def yX5_second : MethodName := ⟨RX5, "second", "(I)I"⟩
abbrev cX5_span : ByteArray := prog_1_method_14_code
def yX5_span : MethodName := ⟨RX5, "span", "(II)I"⟩
abbrev cX5_best : ByteArray := prog_1_method_15_code
def yX5_best : MethodName := ⟨RX5, "best", "(I)I"⟩
abbrev cX5_walks : ByteArray := prog_1_method_16_code
def yX5_walks : MethodName := ⟨RX5, "walks", "(IIII)J"⟩
abbrev cX5_uneven : ByteArray := prog_1_method_17_code
def yX5_uneven : MethodName := ⟨RX5, "uneven", "(III)J"⟩
abbrev cX5_apart : ByteArray := prog_1_method_18_code
def yX5_apart : MethodName := ⟨RX5, "apart", "(III)I"⟩
abbrev cX5_distance : ByteArray := prog_1_method_19_code
def yX5_distance : MethodName := ⟨RX5, "distance", "(III)I"⟩
abbrev cX5_round : ByteArray := prog_1_method_20_code
def yX5_round : MethodName := ⟨RX5, "round", "(I)I"⟩
abbrev cX5_odd : ByteArray := prog_1_method_21_code
def yX5_odd : MethodName := ⟨RX5, "odd", "(IJ)I"⟩
abbrev cX5_flipped : ByteArray := prog_1_method_22_code
def yX5_flipped : MethodName := ⟨RX5, "flipped", "(IJ)J"⟩
abbrev cX5_digest : ByteArray := prog_1_method_23_code
def yX5_digest : MethodName := ⟨RX5, "digest", "()J"⟩
abbrev cX5_netAt : ByteArray := prog_1_method_24_code
def yX5_netAt : MethodName := ⟨RX5, "netAt", "(I)LSpreadNets$Net;"⟩
abbrev cX5_isKnotCount : ByteArray := prog_1_method_25_code
def yX5_isKnotCount : MethodName := ⟨RX5, "isKnotCount", "(I)Z"⟩
abbrev cX5_isHalves : ByteArray := prog_1_method_26_code
def yX5_isHalves : MethodName := ⟨RX5, "isHalves", "(I)Z"⟩
abbrev cX5_isStepCount : ByteArray := prog_1_method_27_code
def yX5_isStepCount : MethodName := ⟨RX5, "isStepCount", "(I)Z"⟩
abbrev cX5_power : ByteArray := prog_1_method_28_code
def yX5_power : MethodName := ⟨RX5, "power", "(II)J"⟩
abbrev cX5_leastSigning : ByteArray := prog_1_method_29_code
def yX5_leastSigning : MethodName := ⟨RX5, "leastSigning", "(LSpreadNets$Net;)I"⟩
abbrev cX5_lateForest : ByteArray := prog_1_method_30_code
def yX5_lateForest : MethodName := ⟨RX5, "lateForest", "(LSpreadNets$Net;)I"⟩
def RX6 : String := "SpreadNetsModel"
def TX6 : u_T := fun k => match k with
  | 0 => ("SpreadNetsModel", "knots", "[I", true)
  | 1 => ("SpreadNetsModel", "near", "[I", true)
  | 2 => ("SpreadNetsModel", "first", "[I", true)
  | 3 => ("SpreadNetsModel", "second", "[I", true)
  | 4 => ("SpreadNetsModel", "many", "I", false)
  | 5 => ("SpreadNetsModel", "one", "[I", true)
  | 6 => ("SpreadNetsModel", "other", "[I", true)
  | 7 => ("SpreadNetsModel", "table", "[J", true)
  | 8 => ("SpreadNetsModel", "power", "[J", true)
  | 9 => ("SpreadNetsModel", "times", "[J", true)
  | 10 => ("SpreadNetsModel", "number", "[J", true)
  | 11 => ("SpreadNetsModel", "moved", "[J", true)
  | 12 => ("SpreadNetsModel", "walk", "[J", true)
  | 13 => ("SpreadNetsModel", "next", "[J", true)
  | 14 => ("SpreadNetsModel", "onTo", "[I", true)
  | 15 => ("SpreadNetsModel", "cameFrom", "[I", true)
  | 16 => ("SpreadNetsModel", "begun", "I", false)
  | 17 => ("SpreadNetsModel", "ended", "I", false)
  | 18 => ("SpreadNetsModel", "seenFrom", "[I", true)
  | 19 => ("SpreadNetsModel", "queue", "[I", true)
  | 20 => ("SpreadNetsModel", "queued", "I", false)
  | _ => ("SpreadNetsModel", "trail", "[I", true)
def tyX6 : Nat → FieldType := fun k => match k with
  | 0 => .array .int
  | 1 => .array .int
  | 2 => .array .int
  | 3 => .array .int
  | 4 => .int
  | 5 => .array .int
  | 6 => .array .int
  | 7 => .array .long
  | 8 => .array .long
  | 9 => .array .long
  | 10 => .array .long
  | 11 => .array .long
  | 12 => .array .long
  | 13 => .array .long
  | 14 => .array .int
  | 15 => .array .int
  | 16 => .int
  | 17 => .int
  | 18 => .array .int
  | 19 => .array .int
  | 20 => .int
  | _ => .array .int
abbrev wsX60 : List Cond := u_ws RX6 TX6 22
theorem nmX6 : ∀ a, a < 22 → ∀ b, b < 22 → a ≠ b → (TX6 a).2.1 ≠ (TX6 b).2.1 := by decide +kernel
theorem tyX6_ok : ∀ k, k < 22 → parseFieldDescriptor (TX6 k).2.2.1 = some (tyX6 k) := by decide +kernel
abbrev cX6_init : ByteArray := prog_8_method_1_code
def yX6_init : MethodName := ⟨RX6, "<init>", "()V"⟩
abbrev cX6_in : ByteArray := prog_8_method_2_code
def yX6_in : MethodName := ⟨RX6, "in", "(III)Z"⟩
abbrev cX6_isNet : ByteArray := prog_8_method_3_code
def yX6_isNet : MethodName := ⟨RX6, "isNet", "(I)Z"⟩
abbrev cX6_isKnot : ByteArray := prog_8_method_4_code
def yX6_isKnot : MethodName := ⟨RX6, "isKnot", "(II)Z"⟩
abbrev cX6_has : ByteArray := prog_8_method_5_code
def yX6_has : MethodName := ⟨RX6, "has", "(III)Z"⟩
abbrev cX6_put : ByteArray := prog_8_method_6_code
def yX6_put : MethodName := ⟨RX6, "put", "(III)V"⟩
abbrev cX6_begin : ByteArray := prog_8_method_7_code
def yX6_begin : MethodName := ⟨RX6, "begin", "(II)V"⟩
abbrev cX6_lines : ByteArray := prog_8_method_8_code
def yX6_lines : MethodName := ⟨RX6, "lines", "(I)I"⟩
abbrev cX6_bits : ByteArray := prog_8_method_9_code
def yX6_bits : MethodName := ⟨RX6, "bits", "(I)I"⟩
abbrev cX6_net : ByteArray := prog_8_method_10_code
def yX6_net : MethodName := ⟨RX6, "net", "(II)I"⟩
abbrev cX6_line : ByteArray := prog_8_method_11_code
def yX6_line : MethodName := ⟨RX6, "line", "(IIIZ)I"⟩
abbrev cX6_ring : ByteArray := prog_8_method_12_code
def yX6_ring : MethodName := ⟨RX6, "ring", "(III)I"⟩
abbrev cX6_product : ByteArray := prog_8_method_13_code
def yX6_product : MethodName := ⟨RX6, "product", "(III)I"⟩
abbrev cX6_turned : ByteArray := prog_8_method_14_code
def yX6_turned : MethodName := ⟨RX6, "turned", "(II)I"⟩
abbrev cX6_degreeOf : ByteArray := prog_8_method_15_code
def yX6_degreeOf : MethodName := ⟨RX6, "degreeOf", "(I)I"⟩
abbrev cX6_grown : ByteArray := prog_8_method_16_code
def yX6_grown : MethodName := ⟨RX6, "grown", "(II)I"⟩
abbrev cX6_parts : ByteArray := prog_8_method_17_code
def yX6_parts : MethodName := ⟨RX6, "parts", "(I)I"⟩
abbrev cX6_about : ByteArray := prog_8_method_18_code
def yX6_about : MethodName := ⟨RX6, "about", "(II)I"⟩
abbrev cX6_near : ByteArray := prog_8_method_19_code
def yX6_near : MethodName := ⟨RX6, "near", "(II)I"⟩
abbrev cX6_layLines : ByteArray := prog_8_method_20_code
def yX6_layLines : MethodName := ⟨RX6, "layLines", "(I)V"⟩
abbrev cX6_number : ByteArray := prog_8_method_21_code
def yX6_number : MethodName := ⟨RX6, "number", "(III)I"⟩
abbrev cX6_outside : ByteArray := prog_8_method_22_code
def yX6_outside : MethodName := ⟨RX6, "outside", "(IIZ)I"⟩
abbrev cX6_growth : ByteArray := prog_8_method_23_code
def yX6_growth : MethodName := ⟨RX6, "growth", "(IZI)I"⟩
abbrev cX6_layTable : ByteArray := prog_8_method_24_code
def yX6_layTable : MethodName := ⟨RX6, "layTable", "(II)V"⟩
abbrev cX6_layPolynomial : ByteArray := prog_8_method_25_code
def yX6_layPolynomial : MethodName := ⟨RX6, "layPolynomial", "(I)V"⟩
abbrev cX6_move : ByteArray := prog_8_method_26_code
def yX6_move : MethodName := ⟨RX6, "move", "(II)V"⟩
abbrev cX6_aboveOf : ByteArray := prog_8_method_27_code
def yX6_aboveOf : MethodName := ⟨RX6, "aboveOf", "(II)I"⟩
abbrev cX6_justOf : ByteArray := prog_8_method_28_code
def yX6_justOf : MethodName := ⟨RX6, "justOf", "(II)I"⟩
abbrev cX6_isAsked : ByteArray := prog_8_method_29_code
def yX6_isAsked : MethodName := ⟨RX6, "isAsked", "(III)Z"⟩
abbrev cX6_layOwn : ByteArray := prog_8_method_30_code
def yX6_layOwn : MethodName := ⟨RX6, "layOwn", "(II)V"⟩
abbrev cX6_more : ByteArray := prog_8_method_31_code
def yX6_more : MethodName := ⟨RX6, "more", "(III)I"⟩
abbrev cX6_just : ByteArray := prog_8_method_32_code
def yX6_just : MethodName := ⟨RX6, "just", "(III)I"⟩
abbrev cX6_second : ByteArray := prog_8_method_33_code
def yX6_second : MethodName := ⟨RX6, "second", "(I)I"⟩
abbrev cX6_spanOf : ByteArray := prog_8_method_34_code
def yX6_spanOf : MethodName := ⟨RX6, "spanOf", "(II)I"⟩
abbrev cX6_span : ByteArray := prog_8_method_35_code
def yX6_span : MethodName := ⟨RX6, "span", "(II)I"⟩
abbrev cX6_best : ByteArray := prog_8_method_36_code
def yX6_best : MethodName := ⟨RX6, "best", "(I)I"⟩
abbrev cX6_layWalks : ByteArray := prog_8_method_37_code
def yX6_layWalks : MethodName := ⟨RX6, "layWalks", "(III)V"⟩
abbrev cX6_walks : ByteArray := prog_8_method_38_code
def yX6_walks : MethodName := ⟨RX6, "walks", "(IIII)J"⟩
abbrev cX6_uneven : ByteArray := prog_8_method_39_code
def yX6_uneven : MethodName := ⟨RX6, "uneven", "(III)J"⟩
abbrev cX6_see : ByteArray := prog_8_method_40_code
def yX6_see : MethodName := ⟨RX6, "see", "(II)V"⟩
abbrev cX6_isUsed : ByteArray := prog_8_method_41_code
def yX6_isUsed : MethodName := ⟨RX6, "isUsed", "(I)Z"⟩
abbrev cX6_oneMore : ByteArray := prog_8_method_42_code
def yX6_oneMore : MethodName := ⟨RX6, "oneMore", "(III)Z"⟩
abbrev cX6_lay : ByteArray := prog_8_method_43_code
def yX6_lay : MethodName := ⟨RX6, "lay", "(I)V"⟩
abbrev cX6_apart : ByteArray := prog_8_method_44_code
def yX6_apart : MethodName := ⟨RX6, "apart", "(III)I"⟩
abbrev cX6_distanceOf : ByteArray := prog_8_method_45_code
def yX6_distanceOf : MethodName := ⟨RX6, "distanceOf", "(IIII)I"⟩
abbrev cX6_distance : ByteArray := prog_8_method_46_code
def yX6_distance : MethodName := ⟨RX6, "distance", "(III)I"⟩
abbrev cX6_round : ByteArray := prog_8_method_47_code
def yX6_round : MethodName := ⟨RX6, "round", "(I)I"⟩
abbrev cX6_oddOnes : ByteArray := prog_8_method_48_code
def yX6_oddOnes : MethodName := ⟨RX6, "oddOnes", "(J)I"⟩
abbrev cX6_isWord : ByteArray := prog_8_method_49_code
def yX6_isWord : MethodName := ⟨RX6, "isWord", "(IJ)Z"⟩
abbrev cX6_odd : ByteArray := prog_8_method_50_code
def yX6_odd : MethodName := ⟨RX6, "odd", "(IJ)I"⟩
abbrev cX6_flipped : ByteArray := prog_8_method_51_code
def yX6_flipped : MethodName := ⟨RX6, "flipped", "(IJ)J"⟩
abbrev cX6_digest : ByteArray := prog_8_method_52_code
def yX6_digest : MethodName := ⟨RX6, "digest", "()J"⟩
def RJ6 : String := "java/lang/Integer"
def TJ6 : u_T := fun k => match k with
  | _ => ("", "", "", false)
def tyJ6 : Nat → FieldType := fun k => match k with
  | _ => .int
abbrev cJ6_bitCount_0f7a4 : ByteArray := prog_9_method_49_code
def yJ6_bitCount_0f7a4 : MethodName := ⟨RJ6, "bitCount", "(I)I"⟩
def RJ13 : String := "java/lang/Long"
def TJ13 : u_T := fun k => match k with
  | _ => ("", "", "", false)
def tyJ13 : Nat → FieldType := fun k => match k with
  | _ => .int
abbrev cJ13_signum_95d88 : ByteArray := prog_10_method_57_code
def yJ13_signum_95d88 : MethodName := ⟨RJ13, "signum", "(J)I"⟩
def RJ9 : String := "java/lang/Math"
def TJ9 : u_T := fun k => match k with
  | _ => ("", "", "", false)
def tyJ9 : Nat → FieldType := fun k => match k with
  | _ => .int
abbrev cJ9_abs_067f4 : ByteArray := prog_11_method_61_code
def yJ9_abs_067f4 : MethodName := ⟨RJ9, "abs", "(J)J"⟩
abbrev cJ9_max_7cf53 : ByteArray := prog_11_method_65_code
def yJ9_max_7cf53 : MethodName := ⟨RJ9, "max", "(II)I"⟩
abbrev cJ9_min_7cf53 : ByteArray := prog_11_method_69_code
def yJ9_min_7cf53 : MethodName := ⟨RJ9, "min", "(II)I"⟩
def RJ10 : String := "java/lang/System"
def TJ10 : u_T := fun k => match k with
  | _ => ("", "", "", false)
def tyJ10 : Nat → FieldType := fun k => match k with
  | _ => .int
def RJ7 : String := "java/util/Arrays"
def TJ7 : u_T := fun k => match k with
  | _ => ("", "", "", false)
def tyJ7 : Nat → FieldType := fun k => match k with
  | _ => .int
abbrev cJ7_fill_d0a16 : ByteArray := prog_13_method_101_code
def yJ7_fill_d0a16 : MethodName := ⟨RJ7, "fill", "([JJ)V"⟩
abbrev cJ7_fill_53178 : ByteArray := prog_13_method_103_code
def yJ7_fill_53178 : MethodName := ⟨RJ7, "fill", "([II)V"⟩
def RL : String := "SpreadNetsLaw"
abbrev cL_law : ByteArray := code
def yL_law : MethodName := ⟨RL, "law", "([I)Z"⟩
abbrev vwCl : List vw_C := [(RX0, TX0, 3), (RX1, TX1, 3), (RX2, TX2, 2), (RX3, TX3, 6), (RX4, TX4, 2), (RX5, TX5, 6), (RX6, TX6, 22)]
theorem inX0 : ∀ w ∈ wsX00, w ∈ lw_tbl := by decide +kernel
theorem inX1 : ∀ w ∈ wsX10, w ∈ lw_tbl := by decide +kernel
theorem inX2 : ∀ w ∈ wsX20, w ∈ lw_tbl := by decide +kernel
theorem inX3 : ∀ w ∈ wsX30, w ∈ lw_tbl := by decide +kernel
theorem inX4 : ∀ w ∈ wsX40, w ∈ lw_tbl := by decide +kernel
theorem inX5 : ∀ w ∈ wsX50, w ∈ lw_tbl := by decide +kernel
theorem inX6 : ∀ w ∈ wsX60, w ∈ lw_tbl := by decide +kernel
end
section
theorem dX0_init_0 : decode cX0_init 0 = .ok (.aload_n 0, 1) := by decide +kernel
theorem dX0_init_1 : decode cX0_init 1 = .ok (.invokespecial 5, 3) := by decide +kernel
theorem dX0_init_4 : decode cX0_init 4 = .ok (.aload_n 0, 1) := by decide +kernel
theorem dX0_init_5 : decode cX0_init 5 = .ok (.bipush 22, 2) := by decide +kernel
theorem dX0_init_7 : decode cX0_init 7 = .ok (.newarray .int, 2) := by decide +kernel
theorem dX0_init_9 : decode cX0_init 9 = .ok (.putfield 11, 3) := by decide +kernel
theorem dX0_init_12 : decode cX0_init 12 = .ok (.aload_n 0, 1) := by decide +kernel
theorem dX0_init_13 : decode cX0_init 13 = .ok (.bipush 22, 2) := by decide +kernel
theorem dX0_init_15 : decode cX0_init 15 = .ok (.newarray .int, 2) := by decide +kernel
theorem dX0_init_17 : decode cX0_init 17 = .ok (.putfield 15, 3) := by decide +kernel
theorem dX0_init_20 : decode cX0_init 20 = .ok (.aload_n 0, 1) := by decide +kernel
theorem dX0_init_21 : decode cX0_init 21 = .ok (.bipush 22, 2) := by decide +kernel
theorem dX0_init_23 : decode cX0_init 23 = .ok (.newarray .int, 2) := by decide +kernel
theorem dX0_init_25 : decode cX0_init 25 = .ok (.putfield 18, 3) := by decide +kernel
theorem dX0_init_28 : decode cX0_init 28 = .ok (.return_, 1) := by decide +kernel
theorem dX0_most_0 : decode cX0_most 0 = .ok (.aload_n 0, 1) := by decide +kernel
theorem dX0_most_1 : decode cX0_most 1 = .ok (.aload_n 1, 1) := by decide +kernel
theorem dX0_most_2 : decode cX0_most 2 = .ok (.iload_n 2, 1) := by decide +kernel
theorem dX0_most_3 : decode cX0_most 3 = .ok (.iload_n 3, 1) := by decide +kernel
theorem dX0_most_4 : decode cX0_most 4 = .ok (.invokevirtual 21, 3) := by decide +kernel
theorem dX0_most_7 : decode cX0_most 7 = .ok (.iconst 0, 1) := by decide +kernel
theorem dX0_most_8 : decode cX0_most 8 = .ok (.istore 4, 2) := by decide +kernel
theorem dX0_most_10 : decode cX0_most 10 = .ok (.iload 4, 2) := by decide +kernel
theorem dX0_most_12 : decode cX0_most 12 = .ok (.aload_n 1, 1) := by decide +kernel
theorem dX0_most_13 : decode cX0_most 13 = .ok (.getfield 25, 3) := by decide +kernel
theorem dX0_most_16 : decode cX0_most 16 = .ok (.if_icmp .ge 20, 3) := by decide +kernel
theorem dX0_most_19 : decode cX0_most 19 = .ok (.aload_n 0, 1) := by decide +kernel
theorem dX0_most_20 : decode cX0_most 20 = .ok (.invokevirtual 31, 3) := by decide +kernel
theorem dX0_most_23 : decode cX0_most 23 = .ok (.ifCond .eq 13, 3) := by decide +kernel
theorem dX0_most_26 : decode cX0_most 26 = .ok (.aload_n 0, 1) := by decide +kernel
theorem dX0_most_27 : decode cX0_most 27 = .ok (.invokevirtual 35, 3) := by decide +kernel
theorem dX0_most_30 : decode cX0_most 30 = .ok (.iinc 4 1, 3) := by decide +kernel
theorem dX0_most_33 : decode cX0_most 33 = .ok (.goto (-23), 3) := by decide +kernel
theorem dX0_most_36 : decode cX0_most 36 = .ok (.iload 4, 2) := by decide +kernel
theorem dX0_most_38 : decode cX0_most 38 = .ok (.ireturn, 1) := by decide +kernel
theorem dX0_openArcs_0 : decode cX0_openArcs 0 = .ok (.aload_n 0, 1) := by decide +kernel
theorem dX0_openArcs_1 : decode cX0_openArcs 1 = .ok (.getfield 11, 3) := by decide +kernel
theorem dX0_openArcs_4 : decode cX0_openArcs 4 = .ok (.iconst 0, 1) := by decide +kernel
theorem dX0_openArcs_5 : decode cX0_openArcs 5 = .ok (.invokestatic 38, 3) := by decide +kernel
theorem dX0_openArcs_8 : decode cX0_openArcs 8 = .ok (.aload_n 0, 1) := by decide +kernel
theorem dX0_openArcs_9 : decode cX0_openArcs 9 = .ok (.getfield 11, 3) := by decide +kernel
theorem dX0_openArcs_12 : decode cX0_openArcs 12 = .ok (.bipush 20, 2) := by decide +kernel
theorem dX0_openArcs_14 : decode cX0_openArcs 14 = .ok (.iload_n 2, 1) := by decide +kernel
theorem dX0_openArcs_15 : decode cX0_openArcs 15 = .ok (.iastore, 1) := by decide +kernel
theorem dX0_openArcs_16 : decode cX0_openArcs 16 = .ok (.iconst 0, 1) := by decide +kernel
theorem dX0_openArcs_17 : decode cX0_openArcs 17 = .ok (.istore 4, 2) := by decide +kernel
theorem dX0_openArcs_19 : decode cX0_openArcs 19 = .ok (.iload 4, 2) := by decide +kernel
theorem dX0_openArcs_21 : decode cX0_openArcs 21 = .ok (.aload_n 1, 1) := by decide +kernel
theorem dX0_openArcs_22 : decode cX0_openArcs 22 = .ok (.getfield 25, 3) := by decide +kernel
theorem dX0_openArcs_25 : decode cX0_openArcs 25 = .ok (.if_icmp .ge 50, 3) := by decide +kernel
theorem dX0_openArcs_28 : decode cX0_openArcs 28 = .ok (.aload_n 0, 1) := by decide +kernel
theorem dX0_openArcs_29 : decode cX0_openArcs 29 = .ok (.getfield 11, 3) := by decide +kernel
theorem dX0_openArcs_32 : decode cX0_openArcs 32 = .ok (.iload 4, 2) := by decide +kernel
theorem dX0_openArcs_34 : decode cX0_openArcs 34 = .ok (.iconst 1, 1) := by decide +kernel
theorem dX0_openArcs_35 : decode cX0_openArcs 35 = .ok (.bipush 10, 2) := by decide +kernel
theorem dX0_openArcs_37 : decode cX0_openArcs 37 = .ok (.iload 4, 2) := by decide +kernel
theorem dX0_openArcs_39 : decode cX0_openArcs 39 = .ok (.iadd, 1) := by decide +kernel
theorem dX0_openArcs_40 : decode cX0_openArcs 40 = .ok (.ishl, 1) := by decide +kernel
theorem dX0_openArcs_41 : decode cX0_openArcs 41 = .ok (.iastore, 1) := by decide +kernel
theorem dX0_openArcs_42 : decode cX0_openArcs 42 = .ok (.aload_n 0, 1) := by decide +kernel
theorem dX0_openArcs_43 : decode cX0_openArcs 43 = .ok (.getfield 11, 3) := by decide +kernel
theorem dX0_openArcs_46 : decode cX0_openArcs 46 = .ok (.bipush 10, 2) := by decide +kernel
theorem dX0_openArcs_48 : decode cX0_openArcs 48 = .ok (.iload 4, 2) := by decide +kernel
theorem dX0_openArcs_50 : decode cX0_openArcs 50 = .ok (.iadd, 1) := by decide +kernel
theorem dX0_openArcs_51 : decode cX0_openArcs 51 = .ok (.aload_n 1, 1) := by decide +kernel
theorem dX0_openArcs_52 : decode cX0_openArcs 52 = .ok (.getfield 44, 3) := by decide +kernel
theorem dX0_openArcs_55 : decode cX0_openArcs 55 = .ok (.iload 4, 2) := by decide +kernel
theorem dX0_openArcs_57 : decode cX0_openArcs 57 = .ok (.iaload, 1) := by decide +kernel
theorem dX0_openArcs_58 : decode cX0_openArcs 58 = .ok (.iload_n 3, 1) := by decide +kernel
theorem dX0_openArcs_59 : decode cX0_openArcs 59 = .ok (.iload 4, 2) := by decide +kernel
theorem dX0_openArcs_61 : decode cX0_openArcs 61 = .ok (.ishr, 1) := by decide +kernel
theorem dX0_openArcs_62 : decode cX0_openArcs 62 = .ok (.iconst 1, 1) := by decide +kernel
theorem dX0_openArcs_63 : decode cX0_openArcs 63 = .ok (.iand, 1) := by decide +kernel
theorem dX0_openArcs_64 : decode cX0_openArcs 64 = .ok (.bipush 21, 2) := by decide +kernel
theorem dX0_openArcs_66 : decode cX0_openArcs 66 = .ok (.ishl, 1) := by decide +kernel
theorem dX0_openArcs_67 : decode cX0_openArcs 67 = .ok (.ior, 1) := by decide +kernel
theorem dX0_openArcs_68 : decode cX0_openArcs 68 = .ok (.iastore, 1) := by decide +kernel
theorem dX0_openArcs_69 : decode cX0_openArcs 69 = .ok (.iinc 4 1, 3) := by decide +kernel
theorem dX0_openArcs_72 : decode cX0_openArcs 72 = .ok (.goto (-53), 3) := by decide +kernel
theorem dX0_openArcs_75 : decode cX0_openArcs 75 = .ok (.return_, 1) := by decide +kernel
theorem dX0_findWay_0 : decode cX0_findWay 0 = .ok (.ldc 47, 2) := by decide +kernel
theorem dX0_findWay_2 : decode cX0_findWay 2 = .ok (.istore_n 1, 1) := by decide +kernel
theorem dX0_findWay_3 : decode cX0_findWay 3 = .ok (.aload_n 0, 1) := by decide +kernel
theorem dX0_findWay_4 : decode cX0_findWay 4 = .ok (.getfield 18, 3) := by decide +kernel
theorem dX0_findWay_7 : decode cX0_findWay 7 = .ok (.iconst 0, 1) := by decide +kernel
theorem dX0_findWay_8 : decode cX0_findWay 8 = .ok (.bipush 20, 2) := by decide +kernel
theorem dX0_findWay_10 : decode cX0_findWay 10 = .ok (.iastore, 1) := by decide +kernel
theorem dX0_findWay_11 : decode cX0_findWay 11 = .ok (.iconst 1, 1) := by decide +kernel
theorem dX0_findWay_12 : decode cX0_findWay 12 = .ok (.istore_n 2, 1) := by decide +kernel
theorem dX0_findWay_13 : decode cX0_findWay 13 = .ok (.iconst 0, 1) := by decide +kernel
theorem dX0_findWay_14 : decode cX0_findWay 14 = .ok (.istore_n 3, 1) := by decide +kernel
theorem dX0_findWay_15 : decode cX0_findWay 15 = .ok (.iload_n 3, 1) := by decide +kernel
theorem dX0_findWay_16 : decode cX0_findWay 16 = .ok (.iload_n 2, 1) := by decide +kernel
theorem dX0_findWay_17 : decode cX0_findWay 17 = .ok (.if_icmp .ge 94, 3) := by decide +kernel
theorem dX0_findWay_20 : decode cX0_findWay 20 = .ok (.iload_n 3, 1) := by decide +kernel
theorem dX0_findWay_21 : decode cX0_findWay 21 = .ok (.bipush 22, 2) := by decide +kernel
theorem dX0_findWay_23 : decode cX0_findWay 23 = .ok (.if_icmp .ge 88, 3) := by decide +kernel
theorem dX0_findWay_26 : decode cX0_findWay 26 = .ok (.aload_n 0, 1) := by decide +kernel
theorem dX0_findWay_27 : decode cX0_findWay 27 = .ok (.getfield 18, 3) := by decide +kernel
theorem dX0_findWay_30 : decode cX0_findWay 30 = .ok (.iload_n 3, 1) := by decide +kernel
theorem dX0_findWay_31 : decode cX0_findWay 31 = .ok (.iaload, 1) := by decide +kernel
theorem dX0_findWay_32 : decode cX0_findWay 32 = .ok (.istore 4, 2) := by decide +kernel
theorem dX0_findWay_34 : decode cX0_findWay 34 = .ok (.aload_n 0, 1) := by decide +kernel
theorem dX0_findWay_35 : decode cX0_findWay 35 = .ok (.getfield 11, 3) := by decide +kernel
theorem dX0_findWay_38 : decode cX0_findWay 38 = .ok (.iload 4, 2) := by decide +kernel
theorem dX0_findWay_40 : decode cX0_findWay 40 = .ok (.iaload, 1) := by decide +kernel
theorem dX0_findWay_41 : decode cX0_findWay 41 = .ok (.iload_n 1, 1) := by decide +kernel
theorem dX0_findWay_42 : decode cX0_findWay 42 = .ok (.iconst (-1), 1) := by decide +kernel
theorem dX0_findWay_43 : decode cX0_findWay 43 = .ok (.ixor, 1) := by decide +kernel
theorem dX0_findWay_44 : decode cX0_findWay 44 = .ok (.iand, 1) := by decide +kernel
theorem dX0_findWay_45 : decode cX0_findWay 45 = .ok (.istore 5, 2) := by decide +kernel
theorem dX0_findWay_47 : decode cX0_findWay 47 = .ok (.iload_n 1, 1) := by decide +kernel
theorem dX0_findWay_48 : decode cX0_findWay 48 = .ok (.iload 5, 2) := by decide +kernel
theorem dX0_findWay_50 : decode cX0_findWay 50 = .ok (.ior, 1) := by decide +kernel
theorem dX0_findWay_51 : decode cX0_findWay 51 = .ok (.istore_n 1, 1) := by decide +kernel
theorem dX0_findWay_52 : decode cX0_findWay 52 = .ok (.iconst 0, 1) := by decide +kernel
theorem dX0_findWay_53 : decode cX0_findWay 53 = .ok (.istore 6, 2) := by decide +kernel
theorem dX0_findWay_55 : decode cX0_findWay 55 = .ok (.iload 6, 2) := by decide +kernel
theorem dX0_findWay_57 : decode cX0_findWay 57 = .ok (.bipush 22, 2) := by decide +kernel
theorem dX0_findWay_59 : decode cX0_findWay 59 = .ok (.if_icmp .ge 46, 3) := by decide +kernel
theorem dX0_findWay_62 : decode cX0_findWay 62 = .ok (.iload 5, 2) := by decide +kernel
theorem dX0_findWay_64 : decode cX0_findWay 64 = .ok (.iload 6, 2) := by decide +kernel
theorem dX0_findWay_66 : decode cX0_findWay 66 = .ok (.ishr, 1) := by decide +kernel
theorem dX0_findWay_67 : decode cX0_findWay 67 = .ok (.iconst 1, 1) := by decide +kernel
theorem dX0_findWay_68 : decode cX0_findWay 68 = .ok (.iand, 1) := by decide +kernel
theorem dX0_findWay_69 : decode cX0_findWay 69 = .ok (.iconst 1, 1) := by decide +kernel
theorem dX0_findWay_70 : decode cX0_findWay 70 = .ok (.if_icmp .ne 29, 3) := by decide +kernel
theorem dX0_findWay_73 : decode cX0_findWay 73 = .ok (.iload_n 2, 1) := by decide +kernel
theorem dX0_findWay_74 : decode cX0_findWay 74 = .ok (.bipush 22, 2) := by decide +kernel
theorem dX0_findWay_76 : decode cX0_findWay 76 = .ok (.if_icmp .ge 23, 3) := by decide +kernel
theorem dX0_findWay_79 : decode cX0_findWay 79 = .ok (.aload_n 0, 1) := by decide +kernel
theorem dX0_findWay_80 : decode cX0_findWay 80 = .ok (.getfield 15, 3) := by decide +kernel
theorem dX0_findWay_83 : decode cX0_findWay 83 = .ok (.iload 6, 2) := by decide +kernel
theorem dX0_findWay_85 : decode cX0_findWay 85 = .ok (.iload 4, 2) := by decide +kernel
theorem dX0_findWay_87 : decode cX0_findWay 87 = .ok (.iastore, 1) := by decide +kernel
theorem dX0_findWay_88 : decode cX0_findWay 88 = .ok (.aload_n 0, 1) := by decide +kernel
theorem dX0_findWay_89 : decode cX0_findWay 89 = .ok (.getfield 18, 3) := by decide +kernel
theorem dX0_findWay_92 : decode cX0_findWay 92 = .ok (.iload_n 2, 1) := by decide +kernel
theorem dX0_findWay_93 : decode cX0_findWay 93 = .ok (.iload 6, 2) := by decide +kernel
theorem dX0_findWay_95 : decode cX0_findWay 95 = .ok (.iastore, 1) := by decide +kernel
theorem dX0_findWay_96 : decode cX0_findWay 96 = .ok (.iinc 2 1, 3) := by decide +kernel
theorem dX0_findWay_99 : decode cX0_findWay 99 = .ok (.iinc 6 1, 3) := by decide +kernel
theorem dX0_findWay_102 : decode cX0_findWay 102 = .ok (.goto (-47), 3) := by decide +kernel
theorem dX0_findWay_105 : decode cX0_findWay 105 = .ok (.iinc 3 1, 3) := by decide +kernel
theorem dX0_findWay_108 : decode cX0_findWay 108 = .ok (.goto (-93), 3) := by decide +kernel
theorem dX0_findWay_111 : decode cX0_findWay 111 = .ok (.iload_n 1, 1) := by decide +kernel
theorem dX0_findWay_112 : decode cX0_findWay 112 = .ok (.bipush 21, 2) := by decide +kernel
theorem dX0_findWay_114 : decode cX0_findWay 114 = .ok (.ishr, 1) := by decide +kernel
theorem dX0_findWay_115 : decode cX0_findWay 115 = .ok (.iconst 1, 1) := by decide +kernel
theorem dX0_findWay_116 : decode cX0_findWay 116 = .ok (.iand, 1) := by decide +kernel
theorem dX0_findWay_117 : decode cX0_findWay 117 = .ok (.iconst 1, 1) := by decide +kernel
theorem dX0_findWay_118 : decode cX0_findWay 118 = .ok (.if_icmp .ne 7, 3) := by decide +kernel
theorem dX0_findWay_121 : decode cX0_findWay 121 = .ok (.iconst 1, 1) := by decide +kernel
theorem dX0_findWay_122 : decode cX0_findWay 122 = .ok (.goto 4, 3) := by decide +kernel
theorem dX0_findWay_125 : decode cX0_findWay 125 = .ok (.iconst 0, 1) := by decide +kernel
theorem dX0_findWay_126 : decode cX0_findWay 126 = .ok (.ireturn, 1) := by decide +kernel
theorem dX0_takeWay_0 : decode cX0_takeWay 0 = .ok (.bipush 21, 2) := by decide +kernel
theorem dX0_takeWay_2 : decode cX0_takeWay 2 = .ok (.istore_n 1, 1) := by decide +kernel
theorem dX0_takeWay_3 : decode cX0_takeWay 3 = .ok (.iconst 0, 1) := by decide +kernel
theorem dX0_takeWay_4 : decode cX0_takeWay 4 = .ok (.istore_n 2, 1) := by decide +kernel
theorem dX0_takeWay_5 : decode cX0_takeWay 5 = .ok (.iload_n 2, 1) := by decide +kernel
theorem dX0_takeWay_6 : decode cX0_takeWay 6 = .ok (.bipush 22, 2) := by decide +kernel
theorem dX0_takeWay_8 : decode cX0_takeWay 8 = .ok (.if_icmp .ge 50, 3) := by decide +kernel
theorem dX0_takeWay_11 : decode cX0_takeWay 11 = .ok (.iload_n 1, 1) := by decide +kernel
theorem dX0_takeWay_12 : decode cX0_takeWay 12 = .ok (.bipush 20, 2) := by decide +kernel
theorem dX0_takeWay_14 : decode cX0_takeWay 14 = .ok (.if_icmp .eq 44, 3) := by decide +kernel
theorem dX0_takeWay_17 : decode cX0_takeWay 17 = .ok (.aload_n 0, 1) := by decide +kernel
theorem dX0_takeWay_18 : decode cX0_takeWay 18 = .ok (.getfield 15, 3) := by decide +kernel
theorem dX0_takeWay_21 : decode cX0_takeWay 21 = .ok (.iload_n 1, 1) := by decide +kernel
theorem dX0_takeWay_22 : decode cX0_takeWay 22 = .ok (.iaload, 1) := by decide +kernel
theorem dX0_takeWay_23 : decode cX0_takeWay 23 = .ok (.istore_n 3, 1) := by decide +kernel
theorem dX0_takeWay_24 : decode cX0_takeWay 24 = .ok (.aload_n 0, 1) := by decide +kernel
theorem dX0_takeWay_25 : decode cX0_takeWay 25 = .ok (.getfield 11, 3) := by decide +kernel
theorem dX0_takeWay_28 : decode cX0_takeWay 28 = .ok (.iload_n 3, 1) := by decide +kernel
theorem dX0_takeWay_29 : decode cX0_takeWay 29 = .ok (.dup2, 1) := by decide +kernel
theorem dX0_takeWay_30 : decode cX0_takeWay 30 = .ok (.iaload, 1) := by decide +kernel
theorem dX0_takeWay_31 : decode cX0_takeWay 31 = .ok (.iconst 1, 1) := by decide +kernel
theorem dX0_takeWay_32 : decode cX0_takeWay 32 = .ok (.iload_n 1, 1) := by decide +kernel
theorem dX0_takeWay_33 : decode cX0_takeWay 33 = .ok (.ishl, 1) := by decide +kernel
theorem dX0_takeWay_34 : decode cX0_takeWay 34 = .ok (.iconst (-1), 1) := by decide +kernel
theorem dX0_takeWay_35 : decode cX0_takeWay 35 = .ok (.ixor, 1) := by decide +kernel
theorem dX0_takeWay_36 : decode cX0_takeWay 36 = .ok (.iand, 1) := by decide +kernel
theorem dX0_takeWay_37 : decode cX0_takeWay 37 = .ok (.iastore, 1) := by decide +kernel
theorem dX0_takeWay_38 : decode cX0_takeWay 38 = .ok (.aload_n 0, 1) := by decide +kernel
theorem dX0_takeWay_39 : decode cX0_takeWay 39 = .ok (.getfield 11, 3) := by decide +kernel
theorem dX0_takeWay_42 : decode cX0_takeWay 42 = .ok (.iload_n 1, 1) := by decide +kernel
theorem dX0_takeWay_43 : decode cX0_takeWay 43 = .ok (.dup2, 1) := by decide +kernel
theorem dX0_takeWay_44 : decode cX0_takeWay 44 = .ok (.iaload, 1) := by decide +kernel
theorem dX0_takeWay_45 : decode cX0_takeWay 45 = .ok (.iconst 1, 1) := by decide +kernel
theorem dX0_takeWay_46 : decode cX0_takeWay 46 = .ok (.iload_n 3, 1) := by decide +kernel
theorem dX0_takeWay_47 : decode cX0_takeWay 47 = .ok (.ishl, 1) := by decide +kernel
theorem dX0_takeWay_48 : decode cX0_takeWay 48 = .ok (.ior, 1) := by decide +kernel
theorem dX0_takeWay_49 : decode cX0_takeWay 49 = .ok (.iastore, 1) := by decide +kernel
theorem dX0_takeWay_50 : decode cX0_takeWay 50 = .ok (.iload_n 3, 1) := by decide +kernel
theorem dX0_takeWay_51 : decode cX0_takeWay 51 = .ok (.istore_n 1, 1) := by decide +kernel
theorem dX0_takeWay_52 : decode cX0_takeWay 52 = .ok (.iinc 2 1, 3) := by decide +kernel
theorem dX0_takeWay_55 : decode cX0_takeWay 55 = .ok (.goto (-50), 3) := by decide +kernel
theorem dX0_takeWay_58 : decode cX0_takeWay 58 = .ok (.return_, 1) := by decide +kernel
theorem dX1_init_0 : decode cX1_init 0 = .ok (.aload_n 0, 1) := by decide +kernel
theorem dX1_init_1 : decode cX1_init 1 = .ok (.invokespecial 1, 3) := by decide +kernel
theorem dX1_init_4 : decode cX1_init 4 = .ok (.return_, 1) := by decide +kernel
theorem dX1_seek_0 : decode cX1_seek 0 = .ok (.aload_n 0, 1) := by decide +kernel
theorem dX1_seek_1 : decode cX1_seek 1 = .ok (.iconst 1, 1) := by decide +kernel
theorem dX1_seek_2 : decode cX1_seek 2 = .ok (.putfield 7, 3) := by decide +kernel
theorem dX1_seek_5 : decode cX1_seek 5 = .ok (.aload_n 0, 1) := by decide +kernel
theorem dX1_seek_6 : decode cX1_seek 6 = .ok (.iconst 0, 1) := by decide +kernel
theorem dX1_seek_7 : decode cX1_seek 7 = .ok (.putfield 13, 3) := by decide +kernel
theorem dX1_seek_10 : decode cX1_seek 10 = .ok (.aload_n 0, 1) := by decide +kernel
theorem dX1_seek_11 : decode cX1_seek 11 = .ok (.iconst 0, 1) := by decide +kernel
theorem dX1_seek_12 : decode cX1_seek 12 = .ok (.putfield 16, 3) := by decide +kernel
theorem dX1_seek_15 : decode cX1_seek 15 = .ok (.iconst 1, 1) := by decide +kernel
theorem dX1_seek_16 : decode cX1_seek 16 = .ok (.aload_n 1, 1) := by decide +kernel
theorem dX1_seek_17 : decode cX1_seek 17 = .ok (.getfield 19, 3) := by decide +kernel
theorem dX1_seek_20 : decode cX1_seek 20 = .ok (.ishl, 1) := by decide +kernel
theorem dX1_seek_21 : decode cX1_seek 21 = .ok (.istore_n 3, 1) := by decide +kernel
theorem dX1_seek_22 : decode cX1_seek 22 = .ok (.iconst 1, 1) := by decide +kernel
theorem dX1_seek_23 : decode cX1_seek 23 = .ok (.istore 4, 2) := by decide +kernel
theorem dX1_seek_25 : decode cX1_seek 25 = .ok (.iload 4, 2) := by decide +kernel
theorem dX1_seek_27 : decode cX1_seek 27 = .ok (.iload_n 3, 1) := by decide +kernel
theorem dX1_seek_28 : decode cX1_seek 28 = .ok (.if_icmp .ge 86, 3) := by decide +kernel
theorem dX1_seek_31 : decode cX1_seek 31 = .ok (.iload 4, 2) := by decide +kernel
theorem dX1_seek_33 : decode cX1_seek 33 = .ok (.invokestatic 24, 3) := by decide +kernel
theorem dX1_seek_36 : decode cX1_seek 36 = .ok (.istore 5, 2) := by decide +kernel
theorem dX1_seek_38 : decode cX1_seek 38 = .ok (.iload 5, 2) := by decide +kernel
theorem dX1_seek_40 : decode cX1_seek 40 = .ok (.aload_n 1, 1) := by decide +kernel
theorem dX1_seek_41 : decode cX1_seek 41 = .ok (.getfield 19, 3) := by decide +kernel
theorem dX1_seek_44 : decode cX1_seek 44 = .ok (.iconst 2, 1) := by decide +kernel
theorem dX1_seek_45 : decode cX1_seek 45 = .ok (.idiv, 1) := by decide +kernel
theorem dX1_seek_46 : decode cX1_seek 46 = .ok (.if_icmp .le 6, 3) := by decide +kernel
theorem dX1_seek_49 : decode cX1_seek 49 = .ok (.goto 59, 3) := by decide +kernel
theorem dX1_seek_52 : decode cX1_seek 52 = .ok (.iload_n 2, 1) := by decide +kernel
theorem dX1_seek_53 : decode cX1_seek 53 = .ok (.ifCond .eq 12, 3) := by decide +kernel
theorem dX1_seek_56 : decode cX1_seek 56 = .ok (.aload_n 1, 1) := by decide +kernel
theorem dX1_seek_57 : decode cX1_seek 57 = .ok (.iload 4, 2) := by decide +kernel
theorem dX1_seek_59 : decode cX1_seek 59 = .ok (.invokestatic 30, 3) := by decide +kernel
theorem dX1_seek_62 : decode cX1_seek 62 = .ok (.goto 9, 3) := by decide +kernel
theorem dX1_seek_65 : decode cX1_seek 65 = .ok (.aload_n 1, 1) := by decide +kernel
theorem dX1_seek_66 : decode cX1_seek 66 = .ok (.iload 4, 2) := by decide +kernel
theorem dX1_seek_68 : decode cX1_seek 68 = .ok (.invokestatic 34, 3) := by decide +kernel
theorem dX1_seek_71 : decode cX1_seek 71 = .ok (.istore 6, 2) := by decide +kernel
theorem dX1_seek_73 : decode cX1_seek 73 = .ok (.iload 6, 2) := by decide +kernel
theorem dX1_seek_75 : decode cX1_seek 75 = .ok (.aload_n 0, 1) := by decide +kernel
theorem dX1_seek_76 : decode cX1_seek 76 = .ok (.getfield 13, 3) := by decide +kernel
theorem dX1_seek_79 : decode cX1_seek 79 = .ok (.imul, 1) := by decide +kernel
theorem dX1_seek_80 : decode cX1_seek 80 = .ok (.aload_n 0, 1) := by decide +kernel
theorem dX1_seek_81 : decode cX1_seek 81 = .ok (.getfield 7, 3) := by decide +kernel
theorem dX1_seek_84 : decode cX1_seek 84 = .ok (.iload 5, 2) := by decide +kernel
theorem dX1_seek_86 : decode cX1_seek 86 = .ok (.imul, 1) := by decide +kernel
theorem dX1_seek_87 : decode cX1_seek 87 = .ok (.if_icmp .ge 21, 3) := by decide +kernel
theorem dX1_seek_90 : decode cX1_seek 90 = .ok (.aload_n 0, 1) := by decide +kernel
theorem dX1_seek_91 : decode cX1_seek 91 = .ok (.iload 6, 2) := by decide +kernel
theorem dX1_seek_93 : decode cX1_seek 93 = .ok (.putfield 7, 3) := by decide +kernel
theorem dX1_seek_96 : decode cX1_seek 96 = .ok (.aload_n 0, 1) := by decide +kernel
theorem dX1_seek_97 : decode cX1_seek 97 = .ok (.iload 5, 2) := by decide +kernel
theorem dX1_seek_99 : decode cX1_seek 99 = .ok (.putfield 13, 3) := by decide +kernel
theorem dX1_seek_102 : decode cX1_seek 102 = .ok (.aload_n 0, 1) := by decide +kernel
theorem dX1_seek_103 : decode cX1_seek 103 = .ok (.iload 4, 2) := by decide +kernel
theorem dX1_seek_105 : decode cX1_seek 105 = .ok (.putfield 16, 3) := by decide +kernel
theorem dX1_seek_108 : decode cX1_seek 108 = .ok (.iinc 4 1, 3) := by decide +kernel
theorem dX1_seek_111 : decode cX1_seek 111 = .ok (.goto (-86), 3) := by decide +kernel
theorem dX1_seek_114 : decode cX1_seek 114 = .ok (.return_, 1) := by decide +kernel
theorem dX1_knotsOut_0 : decode cX1_knotsOut 0 = .ok (.aload_n 0, 1) := by decide +kernel
theorem dX1_knotsOut_1 : decode cX1_knotsOut 1 = .ok (.iload_n 1, 1) := by decide +kernel
theorem dX1_knotsOut_2 : decode cX1_knotsOut 2 = .ok (.invokevirtual 37, 3) := by decide +kernel
theorem dX1_knotsOut_5 : decode cX1_knotsOut 5 = .ok (.iload_n 1, 1) := by decide +kernel
theorem dX1_knotsOut_6 : decode cX1_knotsOut 6 = .ok (.iconst (-1), 1) := by decide +kernel
theorem dX1_knotsOut_7 : decode cX1_knotsOut 7 = .ok (.ixor, 1) := by decide +kernel
theorem dX1_knotsOut_8 : decode cX1_knotsOut 8 = .ok (.iand, 1) := by decide +kernel
theorem dX1_knotsOut_9 : decode cX1_knotsOut 9 = .ok (.invokestatic 24, 3) := by decide +kernel
theorem dX1_knotsOut_12 : decode cX1_knotsOut 12 = .ok (.ireturn, 1) := by decide +kernel
theorem dX1_linesOut_0 : decode cX1_linesOut 0 = .ok (.iconst 0, 1) := by decide +kernel
theorem dX1_linesOut_1 : decode cX1_linesOut 1 = .ok (.istore_n 2, 1) := by decide +kernel
theorem dX1_linesOut_2 : decode cX1_linesOut 2 = .ok (.iconst 0, 1) := by decide +kernel
theorem dX1_linesOut_3 : decode cX1_linesOut 3 = .ok (.istore_n 3, 1) := by decide +kernel
theorem dX1_linesOut_4 : decode cX1_linesOut 4 = .ok (.iload_n 3, 1) := by decide +kernel
theorem dX1_linesOut_5 : decode cX1_linesOut 5 = .ok (.aload_n 0, 1) := by decide +kernel
theorem dX1_linesOut_6 : decode cX1_linesOut 6 = .ok (.getfield 19, 3) := by decide +kernel
theorem dX1_linesOut_9 : decode cX1_linesOut 9 = .ok (.if_icmp .ge 34, 3) := by decide +kernel
theorem dX1_linesOut_12 : decode cX1_linesOut 12 = .ok (.iload_n 1, 1) := by decide +kernel
theorem dX1_linesOut_13 : decode cX1_linesOut 13 = .ok (.iload_n 3, 1) := by decide +kernel
theorem dX1_linesOut_14 : decode cX1_linesOut 14 = .ok (.ishr, 1) := by decide +kernel
theorem dX1_linesOut_15 : decode cX1_linesOut 15 = .ok (.iconst 1, 1) := by decide +kernel
theorem dX1_linesOut_16 : decode cX1_linesOut 16 = .ok (.iand, 1) := by decide +kernel
theorem dX1_linesOut_17 : decode cX1_linesOut 17 = .ok (.iconst 1, 1) := by decide +kernel
theorem dX1_linesOut_18 : decode cX1_linesOut 18 = .ok (.if_icmp .ne 19, 3) := by decide +kernel
theorem dX1_linesOut_21 : decode cX1_linesOut 21 = .ok (.iload_n 2, 1) := by decide +kernel
theorem dX1_linesOut_22 : decode cX1_linesOut 22 = .ok (.aload_n 0, 1) := by decide +kernel
theorem dX1_linesOut_23 : decode cX1_linesOut 23 = .ok (.getfield 40, 3) := by decide +kernel
theorem dX1_linesOut_26 : decode cX1_linesOut 26 = .ok (.iload_n 3, 1) := by decide +kernel
theorem dX1_linesOut_27 : decode cX1_linesOut 27 = .ok (.iaload, 1) := by decide +kernel
theorem dX1_linesOut_28 : decode cX1_linesOut 28 = .ok (.iload_n 1, 1) := by decide +kernel
theorem dX1_linesOut_29 : decode cX1_linesOut 29 = .ok (.iconst (-1), 1) := by decide +kernel
theorem dX1_linesOut_30 : decode cX1_linesOut 30 = .ok (.ixor, 1) := by decide +kernel
theorem dX1_linesOut_31 : decode cX1_linesOut 31 = .ok (.iand, 1) := by decide +kernel
theorem dX1_linesOut_32 : decode cX1_linesOut 32 = .ok (.invokestatic 24, 3) := by decide +kernel
theorem dX1_linesOut_35 : decode cX1_linesOut 35 = .ok (.iadd, 1) := by decide +kernel
theorem dX1_linesOut_36 : decode cX1_linesOut 36 = .ok (.istore_n 2, 1) := by decide +kernel
theorem dX1_linesOut_37 : decode cX1_linesOut 37 = .ok (.iinc 3 1, 3) := by decide +kernel
theorem dX1_linesOut_40 : decode cX1_linesOut 40 = .ok (.goto (-36), 3) := by decide +kernel
theorem dX1_linesOut_43 : decode cX1_linesOut 43 = .ok (.iload_n 2, 1) := by decide +kernel
theorem dX1_linesOut_44 : decode cX1_linesOut 44 = .ok (.ireturn, 1) := by decide +kernel
theorem dX2_init_0 : decode cX2_init 0 = .ok (.aload_n 0, 1) := by decide +kernel
theorem dX2_init_1 : decode cX2_init 1 = .ok (.invokespecial 3, 3) := by decide +kernel
theorem dX2_init_4 : decode cX2_init 4 = .ok (.aload_n 0, 1) := by decide +kernel
theorem dX2_init_5 : decode cX2_init 5 = .ok (.iconst 1, 1) := by decide +kernel
theorem dX2_init_6 : decode cX2_init 6 = .ok (.putfield 9, 3) := by decide +kernel
theorem dX2_init_9 : decode cX2_init 9 = .ok (.aload_n 0, 1) := by decide +kernel
theorem dX2_init_10 : decode cX2_init 10 = .ok (.bipush 10, 2) := by decide +kernel
theorem dX2_init_12 : decode cX2_init 12 = .ok (.newarray .int, 2) := by decide +kernel
theorem dX2_init_14 : decode cX2_init 14 = .ok (.putfield 15, 3) := by decide +kernel
theorem dX2_init_17 : decode cX2_init 17 = .ok (.return_, 1) := by decide +kernel
theorem dX2_hasKnot_0 : decode cX2_hasKnot 0 = .ok (.iload_n 1, 1) := by decide +kernel
theorem dX2_hasKnot_1 : decode cX2_hasKnot 1 = .ok (.ifCond .lt 15, 3) := by decide +kernel
theorem dX2_hasKnot_4 : decode cX2_hasKnot 4 = .ok (.iload_n 1, 1) := by decide +kernel
theorem dX2_hasKnot_5 : decode cX2_hasKnot 5 = .ok (.aload_n 0, 1) := by decide +kernel
theorem dX2_hasKnot_6 : decode cX2_hasKnot 6 = .ok (.getfield 9, 3) := by decide +kernel
theorem dX2_hasKnot_9 : decode cX2_hasKnot 9 = .ok (.if_icmp .ge 7, 3) := by decide +kernel
theorem dX2_hasKnot_12 : decode cX2_hasKnot 12 = .ok (.iconst 1, 1) := by decide +kernel
theorem dX2_hasKnot_13 : decode cX2_hasKnot 13 = .ok (.goto 4, 3) := by decide +kernel
theorem dX2_hasKnot_16 : decode cX2_hasKnot 16 = .ok (.iconst 0, 1) := by decide +kernel
theorem dX2_hasKnot_17 : decode cX2_hasKnot 17 = .ok (.ireturn, 1) := by decide +kernel
theorem dX2_hasKnots_0 : decode cX2_hasKnots 0 = .ok (.aload_n 0, 1) := by decide +kernel
theorem dX2_hasKnots_1 : decode cX2_hasKnots 1 = .ok (.iload_n 1, 1) := by decide +kernel
theorem dX2_hasKnots_2 : decode cX2_hasKnots 2 = .ok (.invokevirtual 19, 3) := by decide +kernel
theorem dX2_hasKnots_5 : decode cX2_hasKnots 5 = .ok (.ifCond .eq 15, 3) := by decide +kernel
theorem dX2_hasKnots_8 : decode cX2_hasKnots 8 = .ok (.aload_n 0, 1) := by decide +kernel
theorem dX2_hasKnots_9 : decode cX2_hasKnots 9 = .ok (.iload_n 2, 1) := by decide +kernel
theorem dX2_hasKnots_10 : decode cX2_hasKnots 10 = .ok (.invokevirtual 19, 3) := by decide +kernel
theorem dX2_hasKnots_13 : decode cX2_hasKnots 13 = .ok (.ifCond .eq 7, 3) := by decide +kernel
theorem dX2_hasKnots_16 : decode cX2_hasKnots 16 = .ok (.iconst 1, 1) := by decide +kernel
theorem dX2_hasKnots_17 : decode cX2_hasKnots 17 = .ok (.goto 4, 3) := by decide +kernel
theorem dX2_hasKnots_20 : decode cX2_hasKnots 20 = .ok (.iconst 0, 1) := by decide +kernel
theorem dX2_hasKnots_21 : decode cX2_hasKnots 21 = .ok (.ireturn, 1) := by decide +kernel
theorem dX2_hasUnlikeKnots_0 : decode cX2_hasUnlikeKnots 0 = .ok (.aload_n 0, 1) := by decide +kernel
theorem dX2_hasUnlikeKnots_1 : decode cX2_hasUnlikeKnots 1 = .ok (.iload_n 1, 1) := by decide +kernel
theorem dX2_hasUnlikeKnots_2 : decode cX2_hasUnlikeKnots 2 = .ok (.iload_n 2, 1) := by decide +kernel
theorem dX2_hasUnlikeKnots_3 : decode cX2_hasUnlikeKnots 3 = .ok (.invokevirtual 23, 3) := by decide +kernel
theorem dX2_hasUnlikeKnots_6 : decode cX2_hasUnlikeKnots 6 = .ok (.ifCond .eq 12, 3) := by decide +kernel
theorem dX2_hasUnlikeKnots_9 : decode cX2_hasUnlikeKnots 9 = .ok (.iload_n 1, 1) := by decide +kernel
theorem dX2_hasUnlikeKnots_10 : decode cX2_hasUnlikeKnots 10 = .ok (.iload_n 2, 1) := by decide +kernel
theorem dX2_hasUnlikeKnots_11 : decode cX2_hasUnlikeKnots 11 = .ok (.if_icmp .eq 7, 3) := by decide +kernel
theorem dX2_hasUnlikeKnots_14 : decode cX2_hasUnlikeKnots 14 = .ok (.iconst 1, 1) := by decide +kernel
theorem dX2_hasUnlikeKnots_15 : decode cX2_hasUnlikeKnots 15 = .ok (.goto 4, 3) := by decide +kernel
theorem dX2_hasUnlikeKnots_18 : decode cX2_hasUnlikeKnots 18 = .ok (.iconst 0, 1) := by decide +kernel
theorem dX2_hasUnlikeKnots_19 : decode cX2_hasUnlikeKnots 19 = .ok (.ireturn, 1) := by decide +kernel
theorem dX2_hasSet_0 : decode cX2_hasSet 0 = .ok (.iload_n 1, 1) := by decide +kernel
theorem dX2_hasSet_1 : decode cX2_hasSet 1 = .ok (.ifCond .lt 16, 3) := by decide +kernel
theorem dX2_hasSet_4 : decode cX2_hasSet 4 = .ok (.iload_n 1, 1) := by decide +kernel
theorem dX2_hasSet_5 : decode cX2_hasSet 5 = .ok (.aload_n 0, 1) := by decide +kernel
theorem dX2_hasSet_6 : decode cX2_hasSet 6 = .ok (.getfield 9, 3) := by decide +kernel
theorem dX2_hasSet_9 : decode cX2_hasSet 9 = .ok (.ishr, 1) := by decide +kernel
theorem dX2_hasSet_10 : decode cX2_hasSet 10 = .ok (.ifCond .ne 7, 3) := by decide +kernel
theorem dX2_hasSet_13 : decode cX2_hasSet 13 = .ok (.iconst 1, 1) := by decide +kernel
theorem dX2_hasSet_14 : decode cX2_hasSet 14 = .ok (.goto 4, 3) := by decide +kernel
theorem dX2_hasSet_17 : decode cX2_hasSet 17 = .ok (.iconst 0, 1) := by decide +kernel
theorem dX2_hasSet_18 : decode cX2_hasSet 18 = .ok (.ireturn, 1) := by decide +kernel
theorem dX2_hasWord_0 : decode cX2_hasWord 0 = .ok (.lload_n 1, 1) := by decide +kernel
theorem dX2_hasWord_1 : decode cX2_hasWord 1 = .ok (.aload_n 0, 1) := by decide +kernel
theorem dX2_hasWord_2 : decode cX2_hasWord 2 = .ok (.invokevirtual 27, 3) := by decide +kernel
theorem dX2_hasWord_5 : decode cX2_hasWord 5 = .ok (.lushr, 1) := by decide +kernel
theorem dX2_hasWord_6 : decode cX2_hasWord 6 = .ok (.lconst 0, 1) := by decide +kernel
theorem dX2_hasWord_7 : decode cX2_hasWord 7 = .ok (.lcmp, 1) := by decide +kernel
theorem dX2_hasWord_8 : decode cX2_hasWord 8 = .ok (.ifCond .ne 7, 3) := by decide +kernel
theorem dX2_hasWord_11 : decode cX2_hasWord 11 = .ok (.iconst 1, 1) := by decide +kernel
theorem dX2_hasWord_12 : decode cX2_hasWord 12 = .ok (.goto 4, 3) := by decide +kernel
theorem dX2_hasWord_15 : decode cX2_hasWord 15 = .ok (.iconst 0, 1) := by decide +kernel
theorem dX2_hasWord_16 : decode cX2_hasWord 16 = .ok (.ireturn, 1) := by decide +kernel
theorem dX2_joins_0 : decode cX2_joins 0 = .ok (.aload_n 0, 1) := by decide +kernel
theorem dX2_joins_1 : decode cX2_joins 1 = .ok (.getfield 15, 3) := by decide +kernel
theorem dX2_joins_4 : decode cX2_joins 4 = .ok (.iload_n 1, 1) := by decide +kernel
theorem dX2_joins_5 : decode cX2_joins 5 = .ok (.iaload, 1) := by decide +kernel
theorem dX2_joins_6 : decode cX2_joins 6 = .ok (.iload_n 2, 1) := by decide +kernel
theorem dX2_joins_7 : decode cX2_joins 7 = .ok (.ishr, 1) := by decide +kernel
theorem dX2_joins_8 : decode cX2_joins 8 = .ok (.iconst 1, 1) := by decide +kernel
theorem dX2_joins_9 : decode cX2_joins 9 = .ok (.iand, 1) := by decide +kernel
theorem dX2_joins_10 : decode cX2_joins 10 = .ok (.iconst 1, 1) := by decide +kernel
theorem dX2_joins_11 : decode cX2_joins 11 = .ok (.if_icmp .ne 7, 3) := by decide +kernel
theorem dX2_joins_14 : decode cX2_joins 14 = .ok (.iconst 1, 1) := by decide +kernel
theorem dX2_joins_15 : decode cX2_joins 15 = .ok (.goto 4, 3) := by decide +kernel
theorem dX2_joins_18 : decode cX2_joins 18 = .ok (.iconst 0, 1) := by decide +kernel
theorem dX2_joins_19 : decode cX2_joins 19 = .ok (.ireturn, 1) := by decide +kernel
theorem dX2_startWith_0 : decode cX2_startWith 0 = .ok (.aload_n 0, 1) := by decide +kernel
theorem dX2_startWith_1 : decode cX2_startWith 1 = .ok (.iload_n 1, 1) := by decide +kernel
theorem dX2_startWith_2 : decode cX2_startWith 2 = .ok (.putfield 9, 3) := by decide +kernel
theorem dX2_startWith_5 : decode cX2_startWith 5 = .ok (.aload_n 0, 1) := by decide +kernel
theorem dX2_startWith_6 : decode cX2_startWith 6 = .ok (.getfield 15, 3) := by decide +kernel
theorem dX2_startWith_9 : decode cX2_startWith 9 = .ok (.iconst 0, 1) := by decide +kernel
theorem dX2_startWith_10 : decode cX2_startWith 10 = .ok (.invokestatic 31, 3) := by decide +kernel
theorem dX2_startWith_13 : decode cX2_startWith 13 = .ok (.return_, 1) := by decide +kernel
theorem dX2_join_0 : decode cX2_join 0 = .ok (.aload_n 0, 1) := by decide +kernel
theorem dX2_join_1 : decode cX2_join 1 = .ok (.getfield 15, 3) := by decide +kernel
theorem dX2_join_4 : decode cX2_join 4 = .ok (.iload_n 1, 1) := by decide +kernel
theorem dX2_join_5 : decode cX2_join 5 = .ok (.dup2, 1) := by decide +kernel
theorem dX2_join_6 : decode cX2_join 6 = .ok (.iaload, 1) := by decide +kernel
theorem dX2_join_7 : decode cX2_join 7 = .ok (.iconst 1, 1) := by decide +kernel
theorem dX2_join_8 : decode cX2_join 8 = .ok (.iload_n 2, 1) := by decide +kernel
theorem dX2_join_9 : decode cX2_join 9 = .ok (.ishl, 1) := by decide +kernel
theorem dX2_join_10 : decode cX2_join 10 = .ok (.ior, 1) := by decide +kernel
theorem dX2_join_11 : decode cX2_join 11 = .ok (.iastore, 1) := by decide +kernel
theorem dX2_join_12 : decode cX2_join 12 = .ok (.aload_n 0, 1) := by decide +kernel
theorem dX2_join_13 : decode cX2_join 13 = .ok (.getfield 15, 3) := by decide +kernel
theorem dX2_join_16 : decode cX2_join 16 = .ok (.iload_n 2, 1) := by decide +kernel
theorem dX2_join_17 : decode cX2_join 17 = .ok (.dup2, 1) := by decide +kernel
theorem dX2_join_18 : decode cX2_join 18 = .ok (.iaload, 1) := by decide +kernel
theorem dX2_join_19 : decode cX2_join 19 = .ok (.iconst 1, 1) := by decide +kernel
theorem dX2_join_20 : decode cX2_join 20 = .ok (.iload_n 1, 1) := by decide +kernel
theorem dX2_join_21 : decode cX2_join 21 = .ok (.ishl, 1) := by decide +kernel
theorem dX2_join_22 : decode cX2_join 22 = .ok (.ior, 1) := by decide +kernel
theorem dX2_join_23 : decode cX2_join 23 = .ok (.iastore, 1) := by decide +kernel
theorem dX2_join_24 : decode cX2_join 24 = .ok (.return_, 1) := by decide +kernel
theorem dX2_change_0 : decode cX2_change 0 = .ok (.aload_n 0, 1) := by decide +kernel
theorem dX2_change_1 : decode cX2_change 1 = .ok (.getfield 15, 3) := by decide +kernel
theorem dX2_change_4 : decode cX2_change 4 = .ok (.iload_n 1, 1) := by decide +kernel
theorem dX2_change_5 : decode cX2_change 5 = .ok (.dup2, 1) := by decide +kernel
theorem dX2_change_6 : decode cX2_change 6 = .ok (.iaload, 1) := by decide +kernel
theorem dX2_change_7 : decode cX2_change 7 = .ok (.iconst 1, 1) := by decide +kernel
theorem dX2_change_8 : decode cX2_change 8 = .ok (.iload_n 2, 1) := by decide +kernel
theorem dX2_change_9 : decode cX2_change 9 = .ok (.ishl, 1) := by decide +kernel
theorem dX2_change_10 : decode cX2_change 10 = .ok (.ixor, 1) := by decide +kernel
theorem dX2_change_11 : decode cX2_change 11 = .ok (.iastore, 1) := by decide +kernel
theorem dX2_change_12 : decode cX2_change 12 = .ok (.aload_n 0, 1) := by decide +kernel
theorem dX2_change_13 : decode cX2_change 13 = .ok (.getfield 15, 3) := by decide +kernel
theorem dX2_change_16 : decode cX2_change 16 = .ok (.iload_n 2, 1) := by decide +kernel
theorem dX2_change_17 : decode cX2_change 17 = .ok (.dup2, 1) := by decide +kernel
theorem dX2_change_18 : decode cX2_change 18 = .ok (.iaload, 1) := by decide +kernel
theorem dX2_change_19 : decode cX2_change 19 = .ok (.iconst 1, 1) := by decide +kernel
theorem dX2_change_20 : decode cX2_change 20 = .ok (.iload_n 1, 1) := by decide +kernel
theorem dX2_change_21 : decode cX2_change 21 = .ok (.ishl, 1) := by decide +kernel
theorem dX2_change_22 : decode cX2_change 22 = .ok (.ixor, 1) := by decide +kernel
theorem dX2_change_23 : decode cX2_change 23 = .ok (.iastore, 1) := by decide +kernel
theorem dX2_change_24 : decode cX2_change 24 = .ok (.return_, 1) := by decide +kernel
theorem dX2_becomeCopy_0 : decode cX2_becomeCopy 0 = .ok (.aload_n 0, 1) := by decide +kernel
theorem dX2_becomeCopy_1 : decode cX2_becomeCopy 1 = .ok (.aload_n 1, 1) := by decide +kernel
theorem dX2_becomeCopy_2 : decode cX2_becomeCopy 2 = .ok (.getfield 9, 3) := by decide +kernel
theorem dX2_becomeCopy_5 : decode cX2_becomeCopy 5 = .ok (.putfield 9, 3) := by decide +kernel
theorem dX2_becomeCopy_8 : decode cX2_becomeCopy 8 = .ok (.aload_n 1, 1) := by decide +kernel
theorem dX2_becomeCopy_9 : decode cX2_becomeCopy 9 = .ok (.getfield 15, 3) := by decide +kernel
theorem dX2_becomeCopy_12 : decode cX2_becomeCopy 12 = .ok (.iconst 0, 1) := by decide +kernel
theorem dX2_becomeCopy_13 : decode cX2_becomeCopy 13 = .ok (.aload_n 0, 1) := by decide +kernel
theorem dX2_becomeCopy_14 : decode cX2_becomeCopy 14 = .ok (.getfield 15, 3) := by decide +kernel
theorem dX2_becomeCopy_17 : decode cX2_becomeCopy 17 = .ok (.iconst 0, 1) := by decide +kernel
theorem dX2_becomeCopy_18 : decode cX2_becomeCopy 18 = .ok (.bipush 10, 2) := by decide +kernel
theorem dX2_becomeCopy_20 : decode cX2_becomeCopy 20 = .ok (.invokestatic 37, 3) := by decide +kernel
theorem dX2_becomeCopy_23 : decode cX2_becomeCopy 23 = .ok (.return_, 1) := by decide +kernel
theorem dX2_becomeRing_0 : decode cX2_becomeRing 0 = .ok (.aload_n 0, 1) := by decide +kernel
theorem dX2_becomeRing_1 : decode cX2_becomeRing 1 = .ok (.iload_n 1, 1) := by decide +kernel
theorem dX2_becomeRing_2 : decode cX2_becomeRing 2 = .ok (.invokevirtual 43, 3) := by decide +kernel
theorem dX2_becomeRing_5 : decode cX2_becomeRing 5 = .ok (.iconst 1, 1) := by decide +kernel
theorem dX2_becomeRing_6 : decode cX2_becomeRing 6 = .ok (.istore_n 3, 1) := by decide +kernel
theorem dX2_becomeRing_7 : decode cX2_becomeRing 7 = .ok (.iload_n 3, 1) := by decide +kernel
theorem dX2_becomeRing_8 : decode cX2_becomeRing 8 = .ok (.iload_n 1, 1) := by decide +kernel
theorem dX2_becomeRing_9 : decode cX2_becomeRing 9 = .ok (.iconst 2, 1) := by decide +kernel
theorem dX2_becomeRing_10 : decode cX2_becomeRing 10 = .ok (.idiv, 1) := by decide +kernel
theorem dX2_becomeRing_11 : decode cX2_becomeRing 11 = .ok (.if_icmp .gt 49, 3) := by decide +kernel
theorem dX2_becomeRing_14 : decode cX2_becomeRing 14 = .ok (.iload_n 2, 1) := by decide +kernel
theorem dX2_becomeRing_15 : decode cX2_becomeRing 15 = .ok (.iload_n 3, 1) := by decide +kernel
theorem dX2_becomeRing_16 : decode cX2_becomeRing 16 = .ok (.iconst 1, 1) := by decide +kernel
theorem dX2_becomeRing_17 : decode cX2_becomeRing 17 = .ok (.isub, 1) := by decide +kernel
theorem dX2_becomeRing_18 : decode cX2_becomeRing 18 = .ok (.ishr, 1) := by decide +kernel
theorem dX2_becomeRing_19 : decode cX2_becomeRing 19 = .ok (.iconst 1, 1) := by decide +kernel
theorem dX2_becomeRing_20 : decode cX2_becomeRing 20 = .ok (.iand, 1) := by decide +kernel
theorem dX2_becomeRing_21 : decode cX2_becomeRing 21 = .ok (.ifCond .ne 6, 3) := by decide +kernel
theorem dX2_becomeRing_24 : decode cX2_becomeRing 24 = .ok (.goto 30, 3) := by decide +kernel
theorem dX2_becomeRing_27 : decode cX2_becomeRing 27 = .ok (.iconst 0, 1) := by decide +kernel
theorem dX2_becomeRing_28 : decode cX2_becomeRing 28 = .ok (.istore 4, 2) := by decide +kernel
theorem dX2_becomeRing_30 : decode cX2_becomeRing 30 = .ok (.iload 4, 2) := by decide +kernel
theorem dX2_becomeRing_32 : decode cX2_becomeRing 32 = .ok (.iload_n 1, 1) := by decide +kernel
theorem dX2_becomeRing_33 : decode cX2_becomeRing 33 = .ok (.if_icmp .ge 21, 3) := by decide +kernel
theorem dX2_becomeRing_36 : decode cX2_becomeRing 36 = .ok (.aload_n 0, 1) := by decide +kernel
theorem dX2_becomeRing_37 : decode cX2_becomeRing 37 = .ok (.iload 4, 2) := by decide +kernel
theorem dX2_becomeRing_39 : decode cX2_becomeRing 39 = .ok (.iload 4, 2) := by decide +kernel
theorem dX2_becomeRing_41 : decode cX2_becomeRing 41 = .ok (.iload_n 3, 1) := by decide +kernel
theorem dX2_becomeRing_42 : decode cX2_becomeRing 42 = .ok (.iadd, 1) := by decide +kernel
theorem dX2_becomeRing_43 : decode cX2_becomeRing 43 = .ok (.iload_n 1, 1) := by decide +kernel
theorem dX2_becomeRing_44 : decode cX2_becomeRing 44 = .ok (.irem, 1) := by decide +kernel
theorem dX2_becomeRing_45 : decode cX2_becomeRing 45 = .ok (.invokevirtual 47, 3) := by decide +kernel
theorem dX2_becomeRing_48 : decode cX2_becomeRing 48 = .ok (.iinc 4 1, 3) := by decide +kernel
theorem dX2_becomeRing_51 : decode cX2_becomeRing 51 = .ok (.goto (-21), 3) := by decide +kernel
theorem dX2_becomeRing_54 : decode cX2_becomeRing 54 = .ok (.iinc 3 1, 3) := by decide +kernel
theorem dX2_becomeRing_57 : decode cX2_becomeRing 57 = .ok (.goto (-50), 3) := by decide +kernel
theorem dX2_becomeRing_60 : decode cX2_becomeRing 60 = .ok (.return_, 1) := by decide +kernel
theorem dX2_becomeProduct_0 : decode cX2_becomeProduct 0 = .ok (.aload_n 2, 1) := by decide +kernel
theorem dX2_becomeProduct_1 : decode cX2_becomeProduct 1 = .ok (.getfield 9, 3) := by decide +kernel
theorem dX2_becomeProduct_4 : decode cX2_becomeProduct 4 = .ok (.istore_n 3, 1) := by decide +kernel
theorem dX2_becomeProduct_5 : decode cX2_becomeProduct 5 = .ok (.aload_n 0, 1) := by decide +kernel
theorem dX2_becomeProduct_6 : decode cX2_becomeProduct 6 = .ok (.aload_n 1, 1) := by decide +kernel
theorem dX2_becomeProduct_7 : decode cX2_becomeProduct 7 = .ok (.getfield 9, 3) := by decide +kernel
theorem dX2_becomeProduct_10 : decode cX2_becomeProduct 10 = .ok (.iload_n 3, 1) := by decide +kernel
theorem dX2_becomeProduct_11 : decode cX2_becomeProduct 11 = .ok (.imul, 1) := by decide +kernel
theorem dX2_becomeProduct_12 : decode cX2_becomeProduct 12 = .ok (.invokevirtual 43, 3) := by decide +kernel
theorem dX2_becomeProduct_15 : decode cX2_becomeProduct 15 = .ok (.iconst 0, 1) := by decide +kernel
theorem dX2_becomeProduct_16 : decode cX2_becomeProduct 16 = .ok (.istore 4, 2) := by decide +kernel
theorem dX2_becomeProduct_18 : decode cX2_becomeProduct 18 = .ok (.iload 4, 2) := by decide +kernel
theorem dX2_becomeProduct_20 : decode cX2_becomeProduct 20 = .ok (.aload_n 1, 1) := by decide +kernel
theorem dX2_becomeProduct_21 : decode cX2_becomeProduct 21 = .ok (.getfield 9, 3) := by decide +kernel
theorem dX2_becomeProduct_24 : decode cX2_becomeProduct 24 = .ok (.if_icmp .ge 100, 3) := by decide +kernel
theorem dX2_becomeProduct_27 : decode cX2_becomeProduct 27 = .ok (.iconst 0, 1) := by decide +kernel
theorem dX2_becomeProduct_28 : decode cX2_becomeProduct 28 = .ok (.istore 5, 2) := by decide +kernel
theorem dX2_becomeProduct_30 : decode cX2_becomeProduct 30 = .ok (.iload 5, 2) := by decide +kernel
theorem dX2_becomeProduct_32 : decode cX2_becomeProduct 32 = .ok (.iload_n 3, 1) := by decide +kernel
theorem dX2_becomeProduct_33 : decode cX2_becomeProduct 33 = .ok (.if_icmp .ge 85, 3) := by decide +kernel
theorem dX2_becomeProduct_36 : decode cX2_becomeProduct 36 = .ok (.iload_n 3, 1) := by decide +kernel
theorem dX2_becomeProduct_37 : decode cX2_becomeProduct 37 = .ok (.iload 4, 2) := by decide +kernel
theorem dX2_becomeProduct_39 : decode cX2_becomeProduct 39 = .ok (.imul, 1) := by decide +kernel
theorem dX2_becomeProduct_40 : decode cX2_becomeProduct 40 = .ok (.iload 5, 2) := by decide +kernel
theorem dX2_becomeProduct_42 : decode cX2_becomeProduct 42 = .ok (.iadd, 1) := by decide +kernel
theorem dX2_becomeProduct_43 : decode cX2_becomeProduct 43 = .ok (.istore 6, 2) := by decide +kernel
theorem dX2_becomeProduct_45 : decode cX2_becomeProduct 45 = .ok (.aload_n 0, 1) := by decide +kernel
theorem dX2_becomeProduct_46 : decode cX2_becomeProduct 46 = .ok (.getfield 15, 3) := by decide +kernel
theorem dX2_becomeProduct_49 : decode cX2_becomeProduct 49 = .ok (.iload 6, 2) := by decide +kernel
theorem dX2_becomeProduct_51 : decode cX2_becomeProduct 51 = .ok (.aload_n 2, 1) := by decide +kernel
theorem dX2_becomeProduct_52 : decode cX2_becomeProduct 52 = .ok (.getfield 15, 3) := by decide +kernel
theorem dX2_becomeProduct_55 : decode cX2_becomeProduct 55 = .ok (.iload 5, 2) := by decide +kernel
theorem dX2_becomeProduct_57 : decode cX2_becomeProduct 57 = .ok (.iaload, 1) := by decide +kernel
theorem dX2_becomeProduct_58 : decode cX2_becomeProduct 58 = .ok (.iload_n 3, 1) := by decide +kernel
theorem dX2_becomeProduct_59 : decode cX2_becomeProduct 59 = .ok (.iload 4, 2) := by decide +kernel
theorem dX2_becomeProduct_61 : decode cX2_becomeProduct 61 = .ok (.imul, 1) := by decide +kernel
theorem dX2_becomeProduct_62 : decode cX2_becomeProduct 62 = .ok (.ishl, 1) := by decide +kernel
theorem dX2_becomeProduct_63 : decode cX2_becomeProduct 63 = .ok (.iastore, 1) := by decide +kernel
theorem dX2_becomeProduct_64 : decode cX2_becomeProduct 64 = .ok (.iconst 0, 1) := by decide +kernel
theorem dX2_becomeProduct_65 : decode cX2_becomeProduct 65 = .ok (.istore 7, 2) := by decide +kernel
theorem dX2_becomeProduct_67 : decode cX2_becomeProduct 67 = .ok (.iload 7, 2) := by decide +kernel
theorem dX2_becomeProduct_69 : decode cX2_becomeProduct 69 = .ok (.aload_n 1, 1) := by decide +kernel
theorem dX2_becomeProduct_70 : decode cX2_becomeProduct 70 = .ok (.getfield 9, 3) := by decide +kernel
theorem dX2_becomeProduct_73 : decode cX2_becomeProduct 73 = .ok (.if_icmp .ge 39, 3) := by decide +kernel
theorem dX2_becomeProduct_76 : decode cX2_becomeProduct 76 = .ok (.aload_n 1, 1) := by decide +kernel
theorem dX2_becomeProduct_77 : decode cX2_becomeProduct 77 = .ok (.iload 4, 2) := by decide +kernel
theorem dX2_becomeProduct_79 : decode cX2_becomeProduct 79 = .ok (.iload 7, 2) := by decide +kernel
theorem dX2_becomeProduct_81 : decode cX2_becomeProduct 81 = .ok (.invokevirtual 51, 3) := by decide +kernel
theorem dX2_becomeProduct_84 : decode cX2_becomeProduct 84 = .ok (.ifCond .eq 22, 3) := by decide +kernel
theorem dX2_becomeProduct_87 : decode cX2_becomeProduct 87 = .ok (.aload_n 0, 1) := by decide +kernel
theorem dX2_becomeProduct_88 : decode cX2_becomeProduct 88 = .ok (.getfield 15, 3) := by decide +kernel
theorem dX2_becomeProduct_91 : decode cX2_becomeProduct 91 = .ok (.iload 6, 2) := by decide +kernel
theorem dX2_becomeProduct_93 : decode cX2_becomeProduct 93 = .ok (.dup2, 1) := by decide +kernel
theorem dX2_becomeProduct_94 : decode cX2_becomeProduct 94 = .ok (.iaload, 1) := by decide +kernel
theorem dX2_becomeProduct_95 : decode cX2_becomeProduct 95 = .ok (.iconst 1, 1) := by decide +kernel
theorem dX2_becomeProduct_96 : decode cX2_becomeProduct 96 = .ok (.iload_n 3, 1) := by decide +kernel
theorem dX2_becomeProduct_97 : decode cX2_becomeProduct 97 = .ok (.iload 7, 2) := by decide +kernel
theorem dX2_becomeProduct_99 : decode cX2_becomeProduct 99 = .ok (.imul, 1) := by decide +kernel
theorem dX2_becomeProduct_100 : decode cX2_becomeProduct 100 = .ok (.iload 5, 2) := by decide +kernel
theorem dX2_becomeProduct_102 : decode cX2_becomeProduct 102 = .ok (.iadd, 1) := by decide +kernel
theorem dX2_becomeProduct_103 : decode cX2_becomeProduct 103 = .ok (.ishl, 1) := by decide +kernel
theorem dX2_becomeProduct_104 : decode cX2_becomeProduct 104 = .ok (.ior, 1) := by decide +kernel
theorem dX2_becomeProduct_105 : decode cX2_becomeProduct 105 = .ok (.iastore, 1) := by decide +kernel
theorem dX2_becomeProduct_106 : decode cX2_becomeProduct 106 = .ok (.iinc 7 1, 3) := by decide +kernel
theorem dX2_becomeProduct_109 : decode cX2_becomeProduct 109 = .ok (.goto (-42), 3) := by decide +kernel
theorem dX2_becomeProduct_112 : decode cX2_becomeProduct 112 = .ok (.iinc 5 1, 3) := by decide +kernel
theorem dX2_becomeProduct_115 : decode cX2_becomeProduct 115 = .ok (.goto (-85), 3) := by decide +kernel
theorem dX2_becomeProduct_118 : decode cX2_becomeProduct 118 = .ok (.iinc 4 1, 3) := by decide +kernel
theorem dX2_becomeProduct_121 : decode cX2_becomeProduct 121 = .ok (.goto (-103), 3) := by decide +kernel
theorem dX2_becomeProduct_124 : decode cX2_becomeProduct 124 = .ok (.return_, 1) := by decide +kernel
theorem dX2_becomeTurned_0 : decode cX2_becomeTurned 0 = .ok (.aload_n 0, 1) := by decide +kernel
theorem dX2_becomeTurned_1 : decode cX2_becomeTurned 1 = .ok (.aload_n 1, 1) := by decide +kernel
theorem dX2_becomeTurned_2 : decode cX2_becomeTurned 2 = .ok (.getfield 9, 3) := by decide +kernel
theorem dX2_becomeTurned_5 : decode cX2_becomeTurned 5 = .ok (.invokevirtual 43, 3) := by decide +kernel
theorem dX2_becomeTurned_8 : decode cX2_becomeTurned 8 = .ok (.iconst 1, 1) := by decide +kernel
theorem dX2_becomeTurned_9 : decode cX2_becomeTurned 9 = .ok (.aload_n 0, 1) := by decide +kernel
theorem dX2_becomeTurned_10 : decode cX2_becomeTurned 10 = .ok (.getfield 9, 3) := by decide +kernel
theorem dX2_becomeTurned_13 : decode cX2_becomeTurned 13 = .ok (.ishl, 1) := by decide +kernel
theorem dX2_becomeTurned_14 : decode cX2_becomeTurned 14 = .ok (.iconst 1, 1) := by decide +kernel
theorem dX2_becomeTurned_15 : decode cX2_becomeTurned 15 = .ok (.isub, 1) := by decide +kernel
theorem dX2_becomeTurned_16 : decode cX2_becomeTurned 16 = .ok (.istore_n 2, 1) := by decide +kernel
theorem dX2_becomeTurned_17 : decode cX2_becomeTurned 17 = .ok (.iconst 0, 1) := by decide +kernel
theorem dX2_becomeTurned_18 : decode cX2_becomeTurned 18 = .ok (.istore_n 3, 1) := by decide +kernel
theorem dX2_becomeTurned_19 : decode cX2_becomeTurned 19 = .ok (.iload_n 3, 1) := by decide +kernel
theorem dX2_becomeTurned_20 : decode cX2_becomeTurned 20 = .ok (.aload_n 0, 1) := by decide +kernel
theorem dX2_becomeTurned_21 : decode cX2_becomeTurned 21 = .ok (.getfield 9, 3) := by decide +kernel
theorem dX2_becomeTurned_24 : decode cX2_becomeTurned 24 = .ok (.if_icmp .ge 31, 3) := by decide +kernel
theorem dX2_becomeTurned_27 : decode cX2_becomeTurned 27 = .ok (.aload_n 0, 1) := by decide +kernel
theorem dX2_becomeTurned_28 : decode cX2_becomeTurned 28 = .ok (.getfield 15, 3) := by decide +kernel
theorem dX2_becomeTurned_31 : decode cX2_becomeTurned 31 = .ok (.iload_n 3, 1) := by decide +kernel
theorem dX2_becomeTurned_32 : decode cX2_becomeTurned 32 = .ok (.iload_n 2, 1) := by decide +kernel
theorem dX2_becomeTurned_33 : decode cX2_becomeTurned 33 = .ok (.aload_n 1, 1) := by decide +kernel
theorem dX2_becomeTurned_34 : decode cX2_becomeTurned 34 = .ok (.getfield 15, 3) := by decide +kernel
theorem dX2_becomeTurned_37 : decode cX2_becomeTurned 37 = .ok (.iload_n 3, 1) := by decide +kernel
theorem dX2_becomeTurned_38 : decode cX2_becomeTurned 38 = .ok (.iaload, 1) := by decide +kernel
theorem dX2_becomeTurned_39 : decode cX2_becomeTurned 39 = .ok (.iconst (-1), 1) := by decide +kernel
theorem dX2_becomeTurned_40 : decode cX2_becomeTurned 40 = .ok (.ixor, 1) := by decide +kernel
theorem dX2_becomeTurned_41 : decode cX2_becomeTurned 41 = .ok (.iand, 1) := by decide +kernel
theorem dX2_becomeTurned_42 : decode cX2_becomeTurned 42 = .ok (.iconst 1, 1) := by decide +kernel
theorem dX2_becomeTurned_43 : decode cX2_becomeTurned 43 = .ok (.iload_n 3, 1) := by decide +kernel
theorem dX2_becomeTurned_44 : decode cX2_becomeTurned 44 = .ok (.ishl, 1) := by decide +kernel
theorem dX2_becomeTurned_45 : decode cX2_becomeTurned 45 = .ok (.iconst (-1), 1) := by decide +kernel
theorem dX2_becomeTurned_46 : decode cX2_becomeTurned 46 = .ok (.ixor, 1) := by decide +kernel
theorem dX2_becomeTurned_47 : decode cX2_becomeTurned 47 = .ok (.iand, 1) := by decide +kernel
theorem dX2_becomeTurned_48 : decode cX2_becomeTurned 48 = .ok (.iastore, 1) := by decide +kernel
theorem dX2_becomeTurned_49 : decode cX2_becomeTurned 49 = .ok (.iinc 3 1, 3) := by decide +kernel
theorem dX2_becomeTurned_52 : decode cX2_becomeTurned 52 = .ok (.goto (-33), 3) := by decide +kernel
theorem dX2_becomeTurned_55 : decode cX2_becomeTurned 55 = .ok (.return_, 1) := by decide +kernel
theorem dX2_degree_0 : decode cX2_degree 0 = .ok (.aload_n 0, 1) := by decide +kernel
theorem dX2_degree_1 : decode cX2_degree 1 = .ok (.getfield 15, 3) := by decide +kernel
theorem dX2_degree_4 : decode cX2_degree 4 = .ok (.iload_n 1, 1) := by decide +kernel
theorem dX2_degree_5 : decode cX2_degree 5 = .ok (.iaload, 1) := by decide +kernel
theorem dX2_degree_6 : decode cX2_degree 6 = .ok (.invokestatic 54, 3) := by decide +kernel
theorem dX2_degree_9 : decode cX2_degree 9 = .ok (.ireturn, 1) := by decide +kernel
theorem dX2_lineCount_0 : decode cX2_lineCount 0 = .ok (.iconst 0, 1) := by decide +kernel
theorem dX2_lineCount_1 : decode cX2_lineCount 1 = .ok (.istore_n 1, 1) := by decide +kernel
theorem dX2_lineCount_2 : decode cX2_lineCount 2 = .ok (.iconst 0, 1) := by decide +kernel
theorem dX2_lineCount_3 : decode cX2_lineCount 3 = .ok (.istore_n 2, 1) := by decide +kernel
theorem dX2_lineCount_4 : decode cX2_lineCount 4 = .ok (.iload_n 2, 1) := by decide +kernel
theorem dX2_lineCount_5 : decode cX2_lineCount 5 = .ok (.aload_n 0, 1) := by decide +kernel
theorem dX2_lineCount_6 : decode cX2_lineCount 6 = .ok (.getfield 9, 3) := by decide +kernel
theorem dX2_lineCount_9 : decode cX2_lineCount 9 = .ok (.if_icmp .ge 17, 3) := by decide +kernel
theorem dX2_lineCount_12 : decode cX2_lineCount 12 = .ok (.iload_n 1, 1) := by decide +kernel
theorem dX2_lineCount_13 : decode cX2_lineCount 13 = .ok (.aload_n 0, 1) := by decide +kernel
theorem dX2_lineCount_14 : decode cX2_lineCount 14 = .ok (.iload_n 2, 1) := by decide +kernel
theorem dX2_lineCount_15 : decode cX2_lineCount 15 = .ok (.invokevirtual 60, 3) := by decide +kernel
theorem dX2_lineCount_18 : decode cX2_lineCount 18 = .ok (.iadd, 1) := by decide +kernel
theorem dX2_lineCount_19 : decode cX2_lineCount 19 = .ok (.istore_n 1, 1) := by decide +kernel
theorem dX2_lineCount_20 : decode cX2_lineCount 20 = .ok (.iinc 2 1, 3) := by decide +kernel
theorem dX2_lineCount_23 : decode cX2_lineCount 23 = .ok (.goto (-19), 3) := by decide +kernel
theorem dX2_lineCount_26 : decode cX2_lineCount 26 = .ok (.iload_n 1, 1) := by decide +kernel
theorem dX2_lineCount_27 : decode cX2_lineCount 27 = .ok (.iconst 2, 1) := by decide +kernel
theorem dX2_lineCount_28 : decode cX2_lineCount 28 = .ok (.idiv, 1) := by decide +kernel
theorem dX2_lineCount_29 : decode cX2_lineCount 29 = .ok (.ireturn, 1) := by decide +kernel
theorem dX2_evenDegree_0 : decode cX2_evenDegree 0 = .ok (.iconst 1, 1) := by decide +kernel
theorem dX2_evenDegree_1 : decode cX2_evenDegree 1 = .ok (.istore_n 1, 1) := by decide +kernel
theorem dX2_evenDegree_2 : decode cX2_evenDegree 2 = .ok (.iload_n 1, 1) := by decide +kernel
theorem dX2_evenDegree_3 : decode cX2_evenDegree 3 = .ok (.aload_n 0, 1) := by decide +kernel
theorem dX2_evenDegree_4 : decode cX2_evenDegree 4 = .ok (.getfield 9, 3) := by decide +kernel
theorem dX2_evenDegree_7 : decode cX2_evenDegree 7 = .ok (.if_icmp .ge 24, 3) := by decide +kernel
theorem dX2_evenDegree_10 : decode cX2_evenDegree 10 = .ok (.aload_n 0, 1) := by decide +kernel
theorem dX2_evenDegree_11 : decode cX2_evenDegree 11 = .ok (.iload_n 1, 1) := by decide +kernel
theorem dX2_evenDegree_12 : decode cX2_evenDegree 12 = .ok (.invokevirtual 60, 3) := by decide +kernel
theorem dX2_evenDegree_15 : decode cX2_evenDegree 15 = .ok (.aload_n 0, 1) := by decide +kernel
theorem dX2_evenDegree_16 : decode cX2_evenDegree 16 = .ok (.iconst 0, 1) := by decide +kernel
theorem dX2_evenDegree_17 : decode cX2_evenDegree 17 = .ok (.invokevirtual 60, 3) := by decide +kernel
theorem dX2_evenDegree_20 : decode cX2_evenDegree 20 = .ok (.if_icmp .eq 5, 3) := by decide +kernel
theorem dX2_evenDegree_23 : decode cX2_evenDegree 23 = .ok (.iconst (-1), 1) := by decide +kernel
theorem dX2_evenDegree_24 : decode cX2_evenDegree 24 = .ok (.ireturn, 1) := by decide +kernel
theorem dX2_evenDegree_25 : decode cX2_evenDegree 25 = .ok (.iinc 1 1, 3) := by decide +kernel
theorem dX2_evenDegree_28 : decode cX2_evenDegree 28 = .ok (.goto (-26), 3) := by decide +kernel
theorem dX2_evenDegree_31 : decode cX2_evenDegree 31 = .ok (.aload_n 0, 1) := by decide +kernel
theorem dX2_evenDegree_32 : decode cX2_evenDegree 32 = .ok (.iconst 0, 1) := by decide +kernel
theorem dX2_evenDegree_33 : decode cX2_evenDegree 33 = .ok (.invokevirtual 60, 3) := by decide +kernel
theorem dX2_evenDegree_36 : decode cX2_evenDegree 36 = .ok (.ireturn, 1) := by decide +kernel
theorem dX2_partCount_0 : decode cX2_partCount 0 = .ok (.iconst 0, 1) := by decide +kernel
theorem dX2_partCount_1 : decode cX2_partCount 1 = .ok (.istore_n 1, 1) := by decide +kernel
theorem dX2_partCount_2 : decode cX2_partCount 2 = .ok (.iconst 0, 1) := by decide +kernel
theorem dX2_partCount_3 : decode cX2_partCount 3 = .ok (.istore_n 2, 1) := by decide +kernel
theorem dX2_partCount_4 : decode cX2_partCount 4 = .ok (.iconst 0, 1) := by decide +kernel
theorem dX2_partCount_5 : decode cX2_partCount 5 = .ok (.istore_n 3, 1) := by decide +kernel
theorem dX2_partCount_6 : decode cX2_partCount 6 = .ok (.iload_n 3, 1) := by decide +kernel
theorem dX2_partCount_7 : decode cX2_partCount 7 = .ok (.aload_n 0, 1) := by decide +kernel
theorem dX2_partCount_8 : decode cX2_partCount 8 = .ok (.getfield 9, 3) := by decide +kernel
theorem dX2_partCount_11 : decode cX2_partCount 11 = .ok (.if_icmp .ge 28, 3) := by decide +kernel
theorem dX2_partCount_14 : decode cX2_partCount 14 = .ok (.iload_n 2, 1) := by decide +kernel
theorem dX2_partCount_15 : decode cX2_partCount 15 = .ok (.iload_n 3, 1) := by decide +kernel
theorem dX2_partCount_16 : decode cX2_partCount 16 = .ok (.ishr, 1) := by decide +kernel
theorem dX2_partCount_17 : decode cX2_partCount 17 = .ok (.iconst 1, 1) := by decide +kernel
theorem dX2_partCount_18 : decode cX2_partCount 18 = .ok (.iand, 1) := by decide +kernel
theorem dX2_partCount_19 : decode cX2_partCount 19 = .ok (.ifCond .ne 14, 3) := by decide +kernel
theorem dX2_partCount_22 : decode cX2_partCount 22 = .ok (.iinc 1 1, 3) := by decide +kernel
theorem dX2_partCount_25 : decode cX2_partCount 25 = .ok (.iload_n 2, 1) := by decide +kernel
theorem dX2_partCount_26 : decode cX2_partCount 26 = .ok (.aload_n 0, 1) := by decide +kernel
theorem dX2_partCount_27 : decode cX2_partCount 27 = .ok (.iload_n 3, 1) := by decide +kernel
theorem dX2_partCount_28 : decode cX2_partCount 28 = .ok (.invokevirtual 63, 3) := by decide +kernel
theorem dX2_partCount_31 : decode cX2_partCount 31 = .ok (.ior, 1) := by decide +kernel
theorem dX2_partCount_32 : decode cX2_partCount 32 = .ok (.istore_n 2, 1) := by decide +kernel
theorem dX2_partCount_33 : decode cX2_partCount 33 = .ok (.iinc 3 1, 3) := by decide +kernel
theorem dX2_partCount_36 : decode cX2_partCount 36 = .ok (.goto (-30), 3) := by decide +kernel
theorem dX2_partCount_39 : decode cX2_partCount 39 = .ok (.iload_n 1, 1) := by decide +kernel
theorem dX2_partCount_40 : decode cX2_partCount 40 = .ok (.ireturn, 1) := by decide +kernel
theorem dX2_partOf_0 : decode cX2_partOf 0 = .ok (.iconst 1, 1) := by decide +kernel
theorem dX2_partOf_1 : decode cX2_partOf 1 = .ok (.iload_n 1, 1) := by decide +kernel
theorem dX2_partOf_2 : decode cX2_partOf 2 = .ok (.ishl, 1) := by decide +kernel
theorem dX2_partOf_3 : decode cX2_partOf 3 = .ok (.istore_n 2, 1) := by decide +kernel
theorem dX2_partOf_4 : decode cX2_partOf 4 = .ok (.iconst 1, 1) := by decide +kernel
theorem dX2_partOf_5 : decode cX2_partOf 5 = .ok (.istore_n 3, 1) := by decide +kernel
theorem dX2_partOf_6 : decode cX2_partOf 6 = .ok (.iload_n 3, 1) := by decide +kernel
theorem dX2_partOf_7 : decode cX2_partOf 7 = .ok (.aload_n 0, 1) := by decide +kernel
theorem dX2_partOf_8 : decode cX2_partOf 8 = .ok (.getfield 9, 3) := by decide +kernel
theorem dX2_partOf_11 : decode cX2_partOf 11 = .ok (.if_icmp .ge 17, 3) := by decide +kernel
theorem dX2_partOf_14 : decode cX2_partOf 14 = .ok (.iload_n 2, 1) := by decide +kernel
theorem dX2_partOf_15 : decode cX2_partOf 15 = .ok (.aload_n 0, 1) := by decide +kernel
theorem dX2_partOf_16 : decode cX2_partOf 16 = .ok (.iload_n 2, 1) := by decide +kernel
theorem dX2_partOf_17 : decode cX2_partOf 17 = .ok (.invokevirtual 66, 3) := by decide +kernel
theorem dX2_partOf_20 : decode cX2_partOf 20 = .ok (.ior, 1) := by decide +kernel
theorem dX2_partOf_21 : decode cX2_partOf 21 = .ok (.istore_n 2, 1) := by decide +kernel
theorem dX2_partOf_22 : decode cX2_partOf 22 = .ok (.iinc 3 1, 3) := by decide +kernel
theorem dX2_partOf_25 : decode cX2_partOf 25 = .ok (.goto (-19), 3) := by decide +kernel
theorem dX2_partOf_28 : decode cX2_partOf 28 = .ok (.iload_n 2, 1) := by decide +kernel
theorem dX2_partOf_29 : decode cX2_partOf 29 = .ok (.ireturn, 1) := by decide +kernel
theorem dX2_besideSet_0 : decode cX2_besideSet 0 = .ok (.iconst 0, 1) := by decide +kernel
theorem dX2_besideSet_1 : decode cX2_besideSet 1 = .ok (.istore_n 2, 1) := by decide +kernel
theorem dX2_besideSet_2 : decode cX2_besideSet 2 = .ok (.iconst 0, 1) := by decide +kernel
theorem dX2_besideSet_3 : decode cX2_besideSet 3 = .ok (.istore_n 3, 1) := by decide +kernel
theorem dX2_besideSet_4 : decode cX2_besideSet 4 = .ok (.iload_n 3, 1) := by decide +kernel
theorem dX2_besideSet_5 : decode cX2_besideSet 5 = .ok (.aload_n 0, 1) := by decide +kernel
theorem dX2_besideSet_6 : decode cX2_besideSet 6 = .ok (.getfield 9, 3) := by decide +kernel
theorem dX2_besideSet_9 : decode cX2_besideSet 9 = .ok (.if_icmp .ge 27, 3) := by decide +kernel
theorem dX2_besideSet_12 : decode cX2_besideSet 12 = .ok (.iload_n 1, 1) := by decide +kernel
theorem dX2_besideSet_13 : decode cX2_besideSet 13 = .ok (.iload_n 3, 1) := by decide +kernel
theorem dX2_besideSet_14 : decode cX2_besideSet 14 = .ok (.ishr, 1) := by decide +kernel
theorem dX2_besideSet_15 : decode cX2_besideSet 15 = .ok (.iconst 1, 1) := by decide +kernel
theorem dX2_besideSet_16 : decode cX2_besideSet 16 = .ok (.iand, 1) := by decide +kernel
theorem dX2_besideSet_17 : decode cX2_besideSet 17 = .ok (.iconst 1, 1) := by decide +kernel
theorem dX2_besideSet_18 : decode cX2_besideSet 18 = .ok (.if_icmp .ne 12, 3) := by decide +kernel
theorem dX2_besideSet_21 : decode cX2_besideSet 21 = .ok (.iload_n 2, 1) := by decide +kernel
theorem dX2_besideSet_22 : decode cX2_besideSet 22 = .ok (.aload_n 0, 1) := by decide +kernel
theorem dX2_besideSet_23 : decode cX2_besideSet 23 = .ok (.getfield 15, 3) := by decide +kernel
theorem dX2_besideSet_26 : decode cX2_besideSet 26 = .ok (.iload_n 3, 1) := by decide +kernel
theorem dX2_besideSet_27 : decode cX2_besideSet 27 = .ok (.iaload, 1) := by decide +kernel
theorem dX2_besideSet_28 : decode cX2_besideSet 28 = .ok (.ior, 1) := by decide +kernel
theorem dX2_besideSet_29 : decode cX2_besideSet 29 = .ok (.istore_n 2, 1) := by decide +kernel
theorem dX2_besideSet_30 : decode cX2_besideSet 30 = .ok (.iinc 3 1, 3) := by decide +kernel
theorem dX2_besideSet_33 : decode cX2_besideSet 33 = .ok (.goto (-29), 3) := by decide +kernel
theorem dX2_besideSet_36 : decode cX2_besideSet 36 = .ok (.iload_n 2, 1) := by decide +kernel
theorem dX2_besideSet_37 : decode cX2_besideSet 37 = .ok (.ireturn, 1) := by decide +kernel
theorem dX2_lineNumber_0 : decode cX2_lineNumber 0 = .ok (.iconst 0, 1) := by decide +kernel
theorem dX2_lineNumber_1 : decode cX2_lineNumber 1 = .ok (.istore_n 3, 1) := by decide +kernel
theorem dX2_lineNumber_2 : decode cX2_lineNumber 2 = .ok (.iconst 0, 1) := by decide +kernel
theorem dX2_lineNumber_3 : decode cX2_lineNumber 3 = .ok (.istore 4, 2) := by decide +kernel
theorem dX2_lineNumber_5 : decode cX2_lineNumber 5 = .ok (.iload 4, 2) := by decide +kernel
theorem dX2_lineNumber_7 : decode cX2_lineNumber 7 = .ok (.iload_n 1, 1) := by decide +kernel
theorem dX2_lineNumber_8 : decode cX2_lineNumber 8 = .ok (.if_icmp .ge 25, 3) := by decide +kernel
theorem dX2_lineNumber_11 : decode cX2_lineNumber 11 = .ok (.iload_n 3, 1) := by decide +kernel
theorem dX2_lineNumber_12 : decode cX2_lineNumber 12 = .ok (.aload_n 0, 1) := by decide +kernel
theorem dX2_lineNumber_13 : decode cX2_lineNumber 13 = .ok (.getfield 15, 3) := by decide +kernel
theorem dX2_lineNumber_16 : decode cX2_lineNumber 16 = .ok (.iload 4, 2) := by decide +kernel
theorem dX2_lineNumber_18 : decode cX2_lineNumber 18 = .ok (.iaload, 1) := by decide +kernel
theorem dX2_lineNumber_19 : decode cX2_lineNumber 19 = .ok (.iload 4, 2) := by decide +kernel
theorem dX2_lineNumber_21 : decode cX2_lineNumber 21 = .ok (.ishr, 1) := by decide +kernel
theorem dX2_lineNumber_22 : decode cX2_lineNumber 22 = .ok (.invokestatic 54, 3) := by decide +kernel
theorem dX2_lineNumber_25 : decode cX2_lineNumber 25 = .ok (.iadd, 1) := by decide +kernel
theorem dX2_lineNumber_26 : decode cX2_lineNumber 26 = .ok (.istore_n 3, 1) := by decide +kernel
theorem dX2_lineNumber_27 : decode cX2_lineNumber 27 = .ok (.iinc 4 1, 3) := by decide +kernel
theorem dX2_lineNumber_30 : decode cX2_lineNumber 30 = .ok (.goto (-25), 3) := by decide +kernel
theorem dX2_lineNumber_33 : decode cX2_lineNumber 33 = .ok (.aload_n 0, 1) := by decide +kernel
theorem dX2_lineNumber_34 : decode cX2_lineNumber 34 = .ok (.getfield 15, 3) := by decide +kernel
theorem dX2_lineNumber_37 : decode cX2_lineNumber 37 = .ok (.iload_n 1, 1) := by decide +kernel
theorem dX2_lineNumber_38 : decode cX2_lineNumber 38 = .ok (.iaload, 1) := by decide +kernel
theorem dX2_lineNumber_39 : decode cX2_lineNumber 39 = .ok (.iconst 1, 1) := by decide +kernel
theorem dX2_lineNumber_40 : decode cX2_lineNumber 40 = .ok (.iload_n 2, 1) := by decide +kernel
theorem dX2_lineNumber_41 : decode cX2_lineNumber 41 = .ok (.ishl, 1) := by decide +kernel
theorem dX2_lineNumber_42 : decode cX2_lineNumber 42 = .ok (.iconst 1, 1) := by decide +kernel
theorem dX2_lineNumber_43 : decode cX2_lineNumber 43 = .ok (.isub, 1) := by decide +kernel
theorem dX2_lineNumber_44 : decode cX2_lineNumber 44 = .ok (.iand, 1) := by decide +kernel
theorem dX2_lineNumber_45 : decode cX2_lineNumber 45 = .ok (.istore 4, 2) := by decide +kernel
theorem dX2_lineNumber_47 : decode cX2_lineNumber 47 = .ok (.iload_n 3, 1) := by decide +kernel
theorem dX2_lineNumber_48 : decode cX2_lineNumber 48 = .ok (.iload 4, 2) := by decide +kernel
theorem dX2_lineNumber_50 : decode cX2_lineNumber 50 = .ok (.iload_n 1, 1) := by decide +kernel
theorem dX2_lineNumber_51 : decode cX2_lineNumber 51 = .ok (.ishr, 1) := by decide +kernel
theorem dX2_lineNumber_52 : decode cX2_lineNumber 52 = .ok (.invokestatic 54, 3) := by decide +kernel
theorem dX2_lineNumber_55 : decode cX2_lineNumber 55 = .ok (.iadd, 1) := by decide +kernel
theorem dX2_lineNumber_56 : decode cX2_lineNumber 56 = .ok (.ireturn, 1) := by decide +kernel
theorem dX2_fewestLines_0 : decode cX2_fewestLines 0 = .ok (.iload_n 1, 1) := by decide +kernel
theorem dX2_fewestLines_1 : decode cX2_fewestLines 1 = .ok (.iload_n 2, 1) := by decide +kernel
theorem dX2_fewestLines_2 : decode cX2_fewestLines 2 = .ok (.if_icmp .ne 5, 3) := by decide +kernel
theorem dX2_fewestLines_5 : decode cX2_fewestLines 5 = .ok (.iconst 0, 1) := by decide +kernel
theorem dX2_fewestLines_6 : decode cX2_fewestLines 6 = .ok (.ireturn, 1) := by decide +kernel
theorem dX2_fewestLines_7 : decode cX2_fewestLines 7 = .ok (.iconst 1, 1) := by decide +kernel
theorem dX2_fewestLines_8 : decode cX2_fewestLines 8 = .ok (.iload_n 1, 1) := by decide +kernel
theorem dX2_fewestLines_9 : decode cX2_fewestLines 9 = .ok (.ishl, 1) := by decide +kernel
theorem dX2_fewestLines_10 : decode cX2_fewestLines 10 = .ok (.istore 4, 2) := by decide +kernel
theorem dX2_fewestLines_12 : decode cX2_fewestLines 12 = .ok (.iload_n 3, 1) := by decide +kernel
theorem dX2_fewestLines_13 : decode cX2_fewestLines 13 = .ok (.ifCond .eq 12, 3) := by decide +kernel
theorem dX2_fewestLines_16 : decode cX2_fewestLines 16 = .ok (.aload_n 0, 1) := by decide +kernel
theorem dX2_fewestLines_17 : decode cX2_fewestLines 17 = .ok (.getfield 15, 3) := by decide +kernel
theorem dX2_fewestLines_20 : decode cX2_fewestLines 20 = .ok (.iload_n 1, 1) := by decide +kernel
theorem dX2_fewestLines_21 : decode cX2_fewestLines 21 = .ok (.iaload, 1) := by decide +kernel
theorem dX2_fewestLines_22 : decode cX2_fewestLines 22 = .ok (.goto 15, 3) := by decide +kernel
theorem dX2_fewestLines_25 : decode cX2_fewestLines 25 = .ok (.aload_n 0, 1) := by decide +kernel
theorem dX2_fewestLines_26 : decode cX2_fewestLines 26 = .ok (.getfield 15, 3) := by decide +kernel
theorem dX2_fewestLines_29 : decode cX2_fewestLines 29 = .ok (.iload_n 1, 1) := by decide +kernel
theorem dX2_fewestLines_30 : decode cX2_fewestLines 30 = .ok (.iaload, 1) := by decide +kernel
theorem dX2_fewestLines_31 : decode cX2_fewestLines 31 = .ok (.iconst 1, 1) := by decide +kernel
theorem dX2_fewestLines_32 : decode cX2_fewestLines 32 = .ok (.iload_n 2, 1) := by decide +kernel
theorem dX2_fewestLines_33 : decode cX2_fewestLines 33 = .ok (.ishl, 1) := by decide +kernel
theorem dX2_fewestLines_34 : decode cX2_fewestLines 34 = .ok (.iconst (-1), 1) := by decide +kernel
theorem dX2_fewestLines_35 : decode cX2_fewestLines 35 = .ok (.ixor, 1) := by decide +kernel
theorem dX2_fewestLines_36 : decode cX2_fewestLines 36 = .ok (.iand, 1) := by decide +kernel
theorem dX2_fewestLines_37 : decode cX2_fewestLines 37 = .ok (.istore 5, 2) := by decide +kernel
theorem dX2_fewestLines_39 : decode cX2_fewestLines 39 = .ok (.iconst 1, 1) := by decide +kernel
theorem dX2_fewestLines_40 : decode cX2_fewestLines 40 = .ok (.istore 6, 2) := by decide +kernel
theorem dX2_fewestLines_42 : decode cX2_fewestLines 42 = .ok (.iload 6, 2) := by decide +kernel
theorem dX2_fewestLines_44 : decode cX2_fewestLines 44 = .ok (.aload_n 0, 1) := by decide +kernel
theorem dX2_fewestLines_45 : decode cX2_fewestLines 45 = .ok (.getfield 9, 3) := by decide +kernel
theorem dX2_fewestLines_48 : decode cX2_fewestLines 48 = .ok (.if_icmp .ge 42, 3) := by decide +kernel
theorem dX2_fewestLines_51 : decode cX2_fewestLines 51 = .ok (.iload 5, 2) := by decide +kernel
theorem dX2_fewestLines_53 : decode cX2_fewestLines 53 = .ok (.iload_n 2, 1) := by decide +kernel
theorem dX2_fewestLines_54 : decode cX2_fewestLines 54 = .ok (.ishr, 1) := by decide +kernel
theorem dX2_fewestLines_55 : decode cX2_fewestLines 55 = .ok (.iconst 1, 1) := by decide +kernel
theorem dX2_fewestLines_56 : decode cX2_fewestLines 56 = .ok (.iand, 1) := by decide +kernel
theorem dX2_fewestLines_57 : decode cX2_fewestLines 57 = .ok (.iconst 1, 1) := by decide +kernel
theorem dX2_fewestLines_58 : decode cX2_fewestLines 58 = .ok (.if_icmp .ne 6, 3) := by decide +kernel
theorem dX2_fewestLines_61 : decode cX2_fewestLines 61 = .ok (.iload 6, 2) := by decide +kernel
theorem dX2_fewestLines_63 : decode cX2_fewestLines 63 = .ok (.ireturn, 1) := by decide +kernel
theorem dX2_fewestLines_64 : decode cX2_fewestLines 64 = .ok (.iload 4, 2) := by decide +kernel
theorem dX2_fewestLines_66 : decode cX2_fewestLines 66 = .ok (.iload 5, 2) := by decide +kernel
theorem dX2_fewestLines_68 : decode cX2_fewestLines 68 = .ok (.ior, 1) := by decide +kernel
theorem dX2_fewestLines_69 : decode cX2_fewestLines 69 = .ok (.istore 4, 2) := by decide +kernel
theorem dX2_fewestLines_71 : decode cX2_fewestLines 71 = .ok (.aload_n 0, 1) := by decide +kernel
theorem dX2_fewestLines_72 : decode cX2_fewestLines 72 = .ok (.iload 5, 2) := by decide +kernel
theorem dX2_fewestLines_74 : decode cX2_fewestLines 74 = .ok (.invokevirtual 66, 3) := by decide +kernel
theorem dX2_fewestLines_77 : decode cX2_fewestLines 77 = .ok (.iload 4, 2) := by decide +kernel
theorem dX2_fewestLines_79 : decode cX2_fewestLines 79 = .ok (.iconst (-1), 1) := by decide +kernel
theorem dX2_fewestLines_80 : decode cX2_fewestLines 80 = .ok (.ixor, 1) := by decide +kernel
theorem dX2_fewestLines_81 : decode cX2_fewestLines 81 = .ok (.iand, 1) := by decide +kernel
theorem dX2_fewestLines_82 : decode cX2_fewestLines 82 = .ok (.istore 5, 2) := by decide +kernel
theorem dX2_fewestLines_84 : decode cX2_fewestLines 84 = .ok (.iinc 6 1, 3) := by decide +kernel
theorem dX2_fewestLines_87 : decode cX2_fewestLines 87 = .ok (.goto (-45), 3) := by decide +kernel
theorem dX2_fewestLines_90 : decode cX2_fewestLines 90 = .ok (.iconst (-1), 1) := by decide +kernel
theorem dX2_fewestLines_91 : decode cX2_fewestLines 91 = .ok (.ireturn, 1) := by decide +kernel
theorem dX2_shortestRound_0 : decode cX2_shortestRound 0 = .ok (.iconst (-1), 1) := by decide +kernel
theorem dX2_shortestRound_1 : decode cX2_shortestRound 1 = .ok (.istore_n 1, 1) := by decide +kernel
theorem dX2_shortestRound_2 : decode cX2_shortestRound 2 = .ok (.iconst 0, 1) := by decide +kernel
theorem dX2_shortestRound_3 : decode cX2_shortestRound 3 = .ok (.istore_n 2, 1) := by decide +kernel
theorem dX2_shortestRound_4 : decode cX2_shortestRound 4 = .ok (.iload_n 2, 1) := by decide +kernel
theorem dX2_shortestRound_5 : decode cX2_shortestRound 5 = .ok (.aload_n 0, 1) := by decide +kernel
theorem dX2_shortestRound_6 : decode cX2_shortestRound 6 = .ok (.getfield 9, 3) := by decide +kernel
theorem dX2_shortestRound_9 : decode cX2_shortestRound 9 = .ok (.if_icmp .ge 73, 3) := by decide +kernel
theorem dX2_shortestRound_12 : decode cX2_shortestRound 12 = .ok (.iload_n 2, 1) := by decide +kernel
theorem dX2_shortestRound_13 : decode cX2_shortestRound 13 = .ok (.iconst 1, 1) := by decide +kernel
theorem dX2_shortestRound_14 : decode cX2_shortestRound 14 = .ok (.iadd, 1) := by decide +kernel
theorem dX2_shortestRound_15 : decode cX2_shortestRound 15 = .ok (.istore_n 3, 1) := by decide +kernel
theorem dX2_shortestRound_16 : decode cX2_shortestRound 16 = .ok (.iload_n 3, 1) := by decide +kernel
theorem dX2_shortestRound_17 : decode cX2_shortestRound 17 = .ok (.aload_n 0, 1) := by decide +kernel
theorem dX2_shortestRound_18 : decode cX2_shortestRound 18 = .ok (.getfield 9, 3) := by decide +kernel
theorem dX2_shortestRound_21 : decode cX2_shortestRound 21 = .ok (.if_icmp .ge 55, 3) := by decide +kernel
theorem dX2_shortestRound_24 : decode cX2_shortestRound 24 = .ok (.aload_n 0, 1) := by decide +kernel
theorem dX2_shortestRound_25 : decode cX2_shortestRound 25 = .ok (.iload_n 2, 1) := by decide +kernel
theorem dX2_shortestRound_26 : decode cX2_shortestRound 26 = .ok (.iload_n 3, 1) := by decide +kernel
theorem dX2_shortestRound_27 : decode cX2_shortestRound 27 = .ok (.invokevirtual 51, 3) := by decide +kernel
theorem dX2_shortestRound_30 : decode cX2_shortestRound 30 = .ok (.ifCond .eq 13, 3) := by decide +kernel
theorem dX2_shortestRound_33 : decode cX2_shortestRound 33 = .ok (.aload_n 0, 1) := by decide +kernel
theorem dX2_shortestRound_34 : decode cX2_shortestRound 34 = .ok (.iload_n 2, 1) := by decide +kernel
theorem dX2_shortestRound_35 : decode cX2_shortestRound 35 = .ok (.iload_n 3, 1) := by decide +kernel
theorem dX2_shortestRound_36 : decode cX2_shortestRound 36 = .ok (.iconst 0, 1) := by decide +kernel
theorem dX2_shortestRound_37 : decode cX2_shortestRound 37 = .ok (.invokevirtual 69, 3) := by decide +kernel
theorem dX2_shortestRound_40 : decode cX2_shortestRound 40 = .ok (.goto 4, 3) := by decide +kernel
theorem dX2_shortestRound_43 : decode cX2_shortestRound 43 = .ok (.iconst (-1), 1) := by decide +kernel
theorem dX2_shortestRound_44 : decode cX2_shortestRound 44 = .ok (.istore 4, 2) := by decide +kernel
theorem dX2_shortestRound_46 : decode cX2_shortestRound 46 = .ok (.iload 4, 2) := by decide +kernel
theorem dX2_shortestRound_48 : decode cX2_shortestRound 48 = .ok (.iconst (-1), 1) := by decide +kernel
theorem dX2_shortestRound_49 : decode cX2_shortestRound 49 = .ok (.if_icmp .eq 21, 3) := by decide +kernel
theorem dX2_shortestRound_52 : decode cX2_shortestRound 52 = .ok (.iload_n 1, 1) := by decide +kernel
theorem dX2_shortestRound_53 : decode cX2_shortestRound 53 = .ok (.iconst (-1), 1) := by decide +kernel
theorem dX2_shortestRound_54 : decode cX2_shortestRound 54 = .ok (.if_icmp .eq 11, 3) := by decide +kernel
theorem dX2_shortestRound_57 : decode cX2_shortestRound 57 = .ok (.iload 4, 2) := by decide +kernel
theorem dX2_shortestRound_59 : decode cX2_shortestRound 59 = .ok (.iconst 1, 1) := by decide +kernel
theorem dX2_shortestRound_60 : decode cX2_shortestRound 60 = .ok (.iadd, 1) := by decide +kernel
theorem dX2_shortestRound_61 : decode cX2_shortestRound 61 = .ok (.iload_n 1, 1) := by decide +kernel
theorem dX2_shortestRound_62 : decode cX2_shortestRound 62 = .ok (.if_icmp .ge 8, 3) := by decide +kernel
theorem dX2_shortestRound_65 : decode cX2_shortestRound 65 = .ok (.iload 4, 2) := by decide +kernel
theorem dX2_shortestRound_67 : decode cX2_shortestRound 67 = .ok (.iconst 1, 1) := by decide +kernel
theorem dX2_shortestRound_68 : decode cX2_shortestRound 68 = .ok (.iadd, 1) := by decide +kernel
theorem dX2_shortestRound_69 : decode cX2_shortestRound 69 = .ok (.istore_n 1, 1) := by decide +kernel
theorem dX2_shortestRound_70 : decode cX2_shortestRound 70 = .ok (.iinc 3 1, 3) := by decide +kernel
theorem dX2_shortestRound_73 : decode cX2_shortestRound 73 = .ok (.goto (-57), 3) := by decide +kernel
theorem dX2_shortestRound_76 : decode cX2_shortestRound 76 = .ok (.iinc 2 1, 3) := by decide +kernel
theorem dX2_shortestRound_79 : decode cX2_shortestRound 79 = .ok (.goto (-75), 3) := by decide +kernel
theorem dX2_shortestRound_82 : decode cX2_shortestRound 82 = .ok (.iload_n 1, 1) := by decide +kernel
theorem dX2_shortestRound_83 : decode cX2_shortestRound 83 = .ok (.ireturn, 1) := by decide +kernel
theorem dX2_oddKnots_0 : decode cX2_oddKnots 0 = .ok (.iconst 0, 1) := by decide +kernel
theorem dX2_oddKnots_1 : decode cX2_oddKnots 1 = .ok (.istore_n 3, 1) := by decide +kernel
theorem dX2_oddKnots_2 : decode cX2_oddKnots 2 = .ok (.iconst 0, 1) := by decide +kernel
theorem dX2_oddKnots_3 : decode cX2_oddKnots 3 = .ok (.istore 4, 2) := by decide +kernel
theorem dX2_oddKnots_5 : decode cX2_oddKnots 5 = .ok (.iconst 0, 1) := by decide +kernel
theorem dX2_oddKnots_6 : decode cX2_oddKnots 6 = .ok (.istore 5, 2) := by decide +kernel
theorem dX2_oddKnots_8 : decode cX2_oddKnots 8 = .ok (.iload 5, 2) := by decide +kernel
theorem dX2_oddKnots_10 : decode cX2_oddKnots 10 = .ok (.aload_n 0, 1) := by decide +kernel
theorem dX2_oddKnots_11 : decode cX2_oddKnots 11 = .ok (.getfield 9, 3) := by decide +kernel
theorem dX2_oddKnots_14 : decode cX2_oddKnots 14 = .ok (.if_icmp .ge 70, 3) := by decide +kernel
theorem dX2_oddKnots_17 : decode cX2_oddKnots 17 = .ok (.iload 5, 2) := by decide +kernel
theorem dX2_oddKnots_19 : decode cX2_oddKnots 19 = .ok (.iconst 1, 1) := by decide +kernel
theorem dX2_oddKnots_20 : decode cX2_oddKnots 20 = .ok (.iadd, 1) := by decide +kernel
theorem dX2_oddKnots_21 : decode cX2_oddKnots 21 = .ok (.istore 6, 2) := by decide +kernel
theorem dX2_oddKnots_23 : decode cX2_oddKnots 23 = .ok (.iload 6, 2) := by decide +kernel
theorem dX2_oddKnots_25 : decode cX2_oddKnots 25 = .ok (.aload_n 0, 1) := by decide +kernel
theorem dX2_oddKnots_26 : decode cX2_oddKnots 26 = .ok (.getfield 9, 3) := by decide +kernel
theorem dX2_oddKnots_29 : decode cX2_oddKnots 29 = .ok (.if_icmp .ge 49, 3) := by decide +kernel
theorem dX2_oddKnots_32 : decode cX2_oddKnots 32 = .ok (.aload_n 0, 1) := by decide +kernel
theorem dX2_oddKnots_33 : decode cX2_oddKnots 33 = .ok (.iload 5, 2) := by decide +kernel
theorem dX2_oddKnots_35 : decode cX2_oddKnots 35 = .ok (.iload 6, 2) := by decide +kernel
theorem dX2_oddKnots_37 : decode cX2_oddKnots 37 = .ok (.invokevirtual 51, 3) := by decide +kernel
theorem dX2_oddKnots_40 : decode cX2_oddKnots 40 = .ok (.ifCond .ne 6, 3) := by decide +kernel
theorem dX2_oddKnots_43 : decode cX2_oddKnots 43 = .ok (.goto 29, 3) := by decide +kernel
theorem dX2_oddKnots_46 : decode cX2_oddKnots 46 = .ok (.lload_n 1, 1) := by decide +kernel
theorem dX2_oddKnots_47 : decode cX2_oddKnots 47 = .ok (.iload 4, 2) := by decide +kernel
theorem dX2_oddKnots_49 : decode cX2_oddKnots 49 = .ok (.lushr, 1) := by decide +kernel
theorem dX2_oddKnots_50 : decode cX2_oddKnots 50 = .ok (.lconst 1, 1) := by decide +kernel
theorem dX2_oddKnots_51 : decode cX2_oddKnots 51 = .ok (.land, 1) := by decide +kernel
theorem dX2_oddKnots_52 : decode cX2_oddKnots 52 = .ok (.lconst 1, 1) := by decide +kernel
theorem dX2_oddKnots_53 : decode cX2_oddKnots 53 = .ok (.lcmp, 1) := by decide +kernel
theorem dX2_oddKnots_54 : decode cX2_oddKnots 54 = .ok (.ifCond .ne 15, 3) := by decide +kernel
theorem dX2_oddKnots_57 : decode cX2_oddKnots 57 = .ok (.iload_n 3, 1) := by decide +kernel
theorem dX2_oddKnots_58 : decode cX2_oddKnots 58 = .ok (.iconst 1, 1) := by decide +kernel
theorem dX2_oddKnots_59 : decode cX2_oddKnots 59 = .ok (.iload 5, 2) := by decide +kernel
theorem dX2_oddKnots_61 : decode cX2_oddKnots 61 = .ok (.ishl, 1) := by decide +kernel
theorem dX2_oddKnots_62 : decode cX2_oddKnots 62 = .ok (.iconst 1, 1) := by decide +kernel
theorem dX2_oddKnots_63 : decode cX2_oddKnots 63 = .ok (.iload 6, 2) := by decide +kernel
theorem dX2_oddKnots_65 : decode cX2_oddKnots 65 = .ok (.ishl, 1) := by decide +kernel
theorem dX2_oddKnots_66 : decode cX2_oddKnots 66 = .ok (.ior, 1) := by decide +kernel
theorem dX2_oddKnots_67 : decode cX2_oddKnots 67 = .ok (.ixor, 1) := by decide +kernel
theorem dX2_oddKnots_68 : decode cX2_oddKnots 68 = .ok (.istore_n 3, 1) := by decide +kernel
theorem dX2_oddKnots_69 : decode cX2_oddKnots 69 = .ok (.iinc 4 1, 3) := by decide +kernel
theorem dX2_oddKnots_72 : decode cX2_oddKnots 72 = .ok (.iinc 6 1, 3) := by decide +kernel
theorem dX2_oddKnots_75 : decode cX2_oddKnots 75 = .ok (.goto (-52), 3) := by decide +kernel
theorem dX2_oddKnots_78 : decode cX2_oddKnots 78 = .ok (.iinc 5 1, 3) := by decide +kernel
theorem dX2_oddKnots_81 : decode cX2_oddKnots 81 = .ok (.goto (-73), 3) := by decide +kernel
theorem dX2_oddKnots_84 : decode cX2_oddKnots 84 = .ok (.iload_n 3, 1) := by decide +kernel
theorem dX2_oddKnots_85 : decode cX2_oddKnots 85 = .ok (.ireturn, 1) := by decide +kernel
theorem dX2_flipBack_0 : decode cX2_flipBack 0 = .ok (.lload_n 1, 1) := by decide +kernel
theorem dX2_flipBack_1 : decode cX2_flipBack 1 = .ok (.lstore_n 3, 1) := by decide +kernel
theorem dX2_flipBack_2 : decode cX2_flipBack 2 = .ok (.aload_n 0, 1) := by decide +kernel
theorem dX2_flipBack_3 : decode cX2_flipBack 3 = .ok (.lload_n 1, 1) := by decide +kernel
theorem dX2_flipBack_4 : decode cX2_flipBack 4 = .ok (.invokevirtual 73, 3) := by decide +kernel
theorem dX2_flipBack_7 : decode cX2_flipBack 7 = .ok (.istore 5, 2) := by decide +kernel
theorem dX2_flipBack_9 : decode cX2_flipBack 9 = .ok (.iconst 0, 1) := by decide +kernel
theorem dX2_flipBack_10 : decode cX2_flipBack 10 = .ok (.istore 6, 2) := by decide +kernel
theorem dX2_flipBack_12 : decode cX2_flipBack 12 = .ok (.iconst 0, 1) := by decide +kernel
theorem dX2_flipBack_13 : decode cX2_flipBack 13 = .ok (.istore 7, 2) := by decide +kernel
theorem dX2_flipBack_15 : decode cX2_flipBack 15 = .ok (.iload 7, 2) := by decide +kernel
theorem dX2_flipBack_17 : decode cX2_flipBack 17 = .ok (.aload_n 0, 1) := by decide +kernel
theorem dX2_flipBack_18 : decode cX2_flipBack 18 = .ok (.getfield 9, 3) := by decide +kernel
theorem dX2_flipBack_21 : decode cX2_flipBack 21 = .ok (.if_icmp .ge 82, 3) := by decide +kernel
theorem dX2_flipBack_24 : decode cX2_flipBack 24 = .ok (.iload 7, 2) := by decide +kernel
theorem dX2_flipBack_26 : decode cX2_flipBack 26 = .ok (.iconst 1, 1) := by decide +kernel
theorem dX2_flipBack_27 : decode cX2_flipBack 27 = .ok (.iadd, 1) := by decide +kernel
theorem dX2_flipBack_28 : decode cX2_flipBack 28 = .ok (.istore 8, 2) := by decide +kernel
theorem dX2_flipBack_30 : decode cX2_flipBack 30 = .ok (.iload 8, 2) := by decide +kernel
theorem dX2_flipBack_32 : decode cX2_flipBack 32 = .ok (.aload_n 0, 1) := by decide +kernel
theorem dX2_flipBack_33 : decode cX2_flipBack 33 = .ok (.getfield 9, 3) := by decide +kernel
theorem dX2_flipBack_36 : decode cX2_flipBack 36 = .ok (.if_icmp .ge 61, 3) := by decide +kernel
theorem dX2_flipBack_39 : decode cX2_flipBack 39 = .ok (.aload_n 0, 1) := by decide +kernel
theorem dX2_flipBack_40 : decode cX2_flipBack 40 = .ok (.iload 7, 2) := by decide +kernel
theorem dX2_flipBack_42 : decode cX2_flipBack 42 = .ok (.iload 8, 2) := by decide +kernel
theorem dX2_flipBack_44 : decode cX2_flipBack 44 = .ok (.invokevirtual 51, 3) := by decide +kernel
theorem dX2_flipBack_47 : decode cX2_flipBack 47 = .ok (.ifCond .ne 6, 3) := by decide +kernel
theorem dX2_flipBack_50 : decode cX2_flipBack 50 = .ok (.goto 41, 3) := by decide +kernel
theorem dX2_flipBack_53 : decode cX2_flipBack 53 = .ok (.iconst 1, 1) := by decide +kernel
theorem dX2_flipBack_54 : decode cX2_flipBack 54 = .ok (.iload 7, 2) := by decide +kernel
theorem dX2_flipBack_56 : decode cX2_flipBack 56 = .ok (.ishl, 1) := by decide +kernel
theorem dX2_flipBack_57 : decode cX2_flipBack 57 = .ok (.iconst 1, 1) := by decide +kernel
theorem dX2_flipBack_58 : decode cX2_flipBack 58 = .ok (.iload 8, 2) := by decide +kernel
theorem dX2_flipBack_60 : decode cX2_flipBack 60 = .ok (.ishl, 1) := by decide +kernel
theorem dX2_flipBack_61 : decode cX2_flipBack 61 = .ok (.ior, 1) := by decide +kernel
theorem dX2_flipBack_62 : decode cX2_flipBack 62 = .ok (.istore 9, 2) := by decide +kernel
theorem dX2_flipBack_64 : decode cX2_flipBack 64 = .ok (.iload 5, 2) := by decide +kernel
theorem dX2_flipBack_66 : decode cX2_flipBack 66 = .ok (.iload 9, 2) := by decide +kernel
theorem dX2_flipBack_68 : decode cX2_flipBack 68 = .ok (.iand, 1) := by decide +kernel
theorem dX2_flipBack_69 : decode cX2_flipBack 69 = .ok (.iload 9, 2) := by decide +kernel
theorem dX2_flipBack_71 : decode cX2_flipBack 71 = .ok (.if_icmp .ne 17, 3) := by decide +kernel
theorem dX2_flipBack_74 : decode cX2_flipBack 74 = .ok (.iload 5, 2) := by decide +kernel
theorem dX2_flipBack_76 : decode cX2_flipBack 76 = .ok (.iload 9, 2) := by decide +kernel
theorem dX2_flipBack_78 : decode cX2_flipBack 78 = .ok (.ixor, 1) := by decide +kernel
theorem dX2_flipBack_79 : decode cX2_flipBack 79 = .ok (.istore 5, 2) := by decide +kernel
theorem dX2_flipBack_81 : decode cX2_flipBack 81 = .ok (.lload_n 3, 1) := by decide +kernel
theorem dX2_flipBack_82 : decode cX2_flipBack 82 = .ok (.lconst 1, 1) := by decide +kernel
theorem dX2_flipBack_83 : decode cX2_flipBack 83 = .ok (.iload 6, 2) := by decide +kernel
theorem dX2_flipBack_85 : decode cX2_flipBack 85 = .ok (.lshl, 1) := by decide +kernel
theorem dX2_flipBack_86 : decode cX2_flipBack 86 = .ok (.lxor, 1) := by decide +kernel
theorem dX2_flipBack_87 : decode cX2_flipBack 87 = .ok (.lstore_n 3, 1) := by decide +kernel
theorem dX2_flipBack_88 : decode cX2_flipBack 88 = .ok (.iinc 6 1, 3) := by decide +kernel
theorem dX2_flipBack_91 : decode cX2_flipBack 91 = .ok (.iinc 8 1, 3) := by decide +kernel
theorem dX2_flipBack_94 : decode cX2_flipBack 94 = .ok (.goto (-64), 3) := by decide +kernel
theorem dX2_flipBack_97 : decode cX2_flipBack 97 = .ok (.iinc 7 1, 3) := by decide +kernel
theorem dX2_flipBack_100 : decode cX2_flipBack 100 = .ok (.goto (-85), 3) := by decide +kernel
theorem dX2_flipBack_103 : decode cX2_flipBack 103 = .ok (.lload_n 3, 1) := by decide +kernel
theorem dX2_flipBack_104 : decode cX2_flipBack 104 = .ok (.lreturn, 1) := by decide +kernel
theorem dX2_addTo_0 : decode cX2_addTo 0 = .ok (.ldc2_w 77, 3) := by decide +kernel
theorem dX2_addTo_3 : decode cX2_addTo 3 = .ok (.lload_n 1, 1) := by decide +kernel
theorem dX2_addTo_4 : decode cX2_addTo 4 = .ok (.lmul, 1) := by decide +kernel
theorem dX2_addTo_5 : decode cX2_addTo 5 = .ok (.aload_n 0, 1) := by decide +kernel
theorem dX2_addTo_6 : decode cX2_addTo 6 = .ok (.getfield 9, 3) := by decide +kernel
theorem dX2_addTo_9 : decode cX2_addTo 9 = .ok (.i2l, 1) := by decide +kernel
theorem dX2_addTo_10 : decode cX2_addTo 10 = .ok (.ladd, 1) := by decide +kernel
theorem dX2_addTo_11 : decode cX2_addTo 11 = .ok (.lstore_n 3, 1) := by decide +kernel
theorem dX2_addTo_12 : decode cX2_addTo 12 = .ok (.iconst 0, 1) := by decide +kernel
theorem dX2_addTo_13 : decode cX2_addTo 13 = .ok (.istore 5, 2) := by decide +kernel
theorem dX2_addTo_15 : decode cX2_addTo 15 = .ok (.iload 5, 2) := by decide +kernel
theorem dX2_addTo_17 : decode cX2_addTo 17 = .ok (.aload_n 0, 1) := by decide +kernel
theorem dX2_addTo_18 : decode cX2_addTo 18 = .ok (.getfield 9, 3) := by decide +kernel
theorem dX2_addTo_21 : decode cX2_addTo 21 = .ok (.if_icmp .ge 24, 3) := by decide +kernel
theorem dX2_addTo_24 : decode cX2_addTo 24 = .ok (.ldc2_w 77, 3) := by decide +kernel
theorem dX2_addTo_27 : decode cX2_addTo 27 = .ok (.lload_n 3, 1) := by decide +kernel
theorem dX2_addTo_28 : decode cX2_addTo 28 = .ok (.lmul, 1) := by decide +kernel
theorem dX2_addTo_29 : decode cX2_addTo 29 = .ok (.aload_n 0, 1) := by decide +kernel
theorem dX2_addTo_30 : decode cX2_addTo 30 = .ok (.getfield 15, 3) := by decide +kernel
theorem dX2_addTo_33 : decode cX2_addTo 33 = .ok (.iload 5, 2) := by decide +kernel
theorem dX2_addTo_35 : decode cX2_addTo 35 = .ok (.iaload, 1) := by decide +kernel
theorem dX2_addTo_36 : decode cX2_addTo 36 = .ok (.i2l, 1) := by decide +kernel
theorem dX2_addTo_37 : decode cX2_addTo 37 = .ok (.ladd, 1) := by decide +kernel
theorem dX2_addTo_38 : decode cX2_addTo 38 = .ok (.lstore_n 3, 1) := by decide +kernel
theorem dX2_addTo_39 : decode cX2_addTo 39 = .ok (.iinc 5 1, 3) := by decide +kernel
theorem dX2_addTo_42 : decode cX2_addTo 42 = .ok (.goto (-27), 3) := by decide +kernel
theorem dX2_addTo_45 : decode cX2_addTo 45 = .ok (.lload_n 3, 1) := by decide +kernel
theorem dX2_addTo_46 : decode cX2_addTo 46 = .ok (.lreturn, 1) := by decide +kernel
theorem dX3_init_0 : decode cX3_init 0 = .ok (.aload_n 0, 1) := by decide +kernel
theorem dX3_init_1 : decode cX3_init 1 = .ok (.invokespecial 3, 3) := by decide +kernel
theorem dX3_init_4 : decode cX3_init 4 = .ok (.aload_n 0, 1) := by decide +kernel
theorem dX3_init_5 : decode cX3_init 5 = .ok (.bipush 10, 2) := by decide +kernel
theorem dX3_init_7 : decode cX3_init 7 = .ok (.bipush 10, 2) := by decide +kernel
theorem dX3_init_9 : decode cX3_init 9 = .ok (.multianewarray 9 2, 4) := by decide +kernel
theorem dX3_init_13 : decode cX3_init 13 = .ok (.putfield 11, 3) := by decide +kernel
theorem dX3_init_16 : decode cX3_init 16 = .ok (.aload_n 0, 1) := by decide +kernel
theorem dX3_init_17 : decode cX3_init 17 = .ok (.bipush 10, 2) := by decide +kernel
theorem dX3_init_19 : decode cX3_init 19 = .ok (.bipush 10, 2) := by decide +kernel
theorem dX3_init_21 : decode cX3_init 21 = .ok (.multianewarray 16 2, 4) := by decide +kernel
theorem dX3_init_25 : decode cX3_init 25 = .ok (.putfield 18, 3) := by decide +kernel
theorem dX3_init_28 : decode cX3_init 28 = .ok (.aload_n 0, 1) := by decide +kernel
theorem dX3_init_29 : decode cX3_init 29 = .ok (.bipush 10, 2) := by decide +kernel
theorem dX3_init_31 : decode cX3_init 31 = .ok (.bipush 10, 2) := by decide +kernel
theorem dX3_init_33 : decode cX3_init 33 = .ok (.multianewarray 16 2, 4) := by decide +kernel
theorem dX3_init_37 : decode cX3_init 37 = .ok (.putfield 21, 3) := by decide +kernel
theorem dX3_init_40 : decode cX3_init 40 = .ok (.aload_n 0, 1) := by decide +kernel
theorem dX3_init_41 : decode cX3_init 41 = .ok (.bipush 11, 2) := by decide +kernel
theorem dX3_init_43 : decode cX3_init 43 = .ok (.newarray .long, 2) := by decide +kernel
theorem dX3_init_45 : decode cX3_init 45 = .ok (.putfield 24, 3) := by decide +kernel
theorem dX3_init_48 : decode cX3_init 48 = .ok (.aload_n 0, 1) := by decide +kernel
theorem dX3_init_49 : decode cX3_init 49 = .ok (.bipush 11, 2) := by decide +kernel
theorem dX3_init_51 : decode cX3_init 51 = .ok (.newarray .long, 2) := by decide +kernel
theorem dX3_init_53 : decode cX3_init 53 = .ok (.putfield 28, 3) := by decide +kernel
theorem dX3_init_56 : decode cX3_init 56 = .ok (.return_, 1) := by decide +kernel
theorem dX3_read_0 : decode cX3_read 0 = .ok (.aload_n 0, 1) := by decide +kernel
theorem dX3_read_1 : decode cX3_read 1 = .ok (.aload_n 1, 1) := by decide +kernel
theorem dX3_read_2 : decode cX3_read 2 = .ok (.getfield 31, 3) := by decide +kernel
theorem dX3_read_5 : decode cX3_read 5 = .ok (.putfield 37, 3) := by decide +kernel
theorem dX3_read_8 : decode cX3_read 8 = .ok (.aload_n 0, 1) := by decide +kernel
theorem dX3_read_9 : decode cX3_read 9 = .ok (.aload_n 1, 1) := by decide +kernel
theorem dX3_read_10 : decode cX3_read 10 = .ok (.iload_n 2, 1) := by decide +kernel
theorem dX3_read_11 : decode cX3_read 11 = .ok (.invokevirtual 38, 3) := by decide +kernel
theorem dX3_read_14 : decode cX3_read 14 = .ok (.aload_n 0, 1) := by decide +kernel
theorem dX3_read_15 : decode cX3_read 15 = .ok (.invokevirtual 42, 3) := by decide +kernel
theorem dX3_read_18 : decode cX3_read 18 = .ok (.return_, 1) := by decide +kernel
theorem dX3_countAbove_0 : decode cX3_countAbove 0 = .ok (.aload_n 0, 1) := by decide +kernel
theorem dX3_countAbove_1 : decode cX3_countAbove 1 = .ok (.iload_n 1, 1) := by decide +kernel
theorem dX3_countAbove_2 : decode cX3_countAbove 2 = .ok (.invokevirtual 45, 3) := by decide +kernel
theorem dX3_countAbove_5 : decode cX3_countAbove 5 = .ok (.iconst 0, 1) := by decide +kernel
theorem dX3_countAbove_6 : decode cX3_countAbove 6 = .ok (.istore_n 2, 1) := by decide +kernel
theorem dX3_countAbove_7 : decode cX3_countAbove 7 = .ok (.iconst 0, 1) := by decide +kernel
theorem dX3_countAbove_8 : decode cX3_countAbove 8 = .ok (.istore_n 3, 1) := by decide +kernel
theorem dX3_countAbove_9 : decode cX3_countAbove 9 = .ok (.aload_n 0, 1) := by decide +kernel
theorem dX3_countAbove_10 : decode cX3_countAbove 10 = .ok (.getfield 37, 3) := by decide +kernel
theorem dX3_countAbove_13 : decode cX3_countAbove 13 = .ok (.istore 4, 2) := by decide +kernel
theorem dX3_countAbove_15 : decode cX3_countAbove 15 = .ok (.iload 4, 2) := by decide +kernel
theorem dX3_countAbove_17 : decode cX3_countAbove 17 = .ok (.ifCond .lt 48, 3) := by decide +kernel
theorem dX3_countAbove_20 : decode cX3_countAbove 20 = .ok (.aload_n 0, 1) := by decide +kernel
theorem dX3_countAbove_21 : decode cX3_countAbove 21 = .ok (.getfield 28, 3) := by decide +kernel
theorem dX3_countAbove_24 : decode cX3_countAbove 24 = .ok (.iload 4, 2) := by decide +kernel
theorem dX3_countAbove_26 : decode cX3_countAbove 26 = .ok (.laload, 1) := by decide +kernel
theorem dX3_countAbove_27 : decode cX3_countAbove 27 = .ok (.invokestatic 49, 3) := by decide +kernel
theorem dX3_countAbove_30 : decode cX3_countAbove 30 = .ok (.istore 5, 2) := by decide +kernel
theorem dX3_countAbove_32 : decode cX3_countAbove 32 = .ok (.iload 5, 2) := by decide +kernel
theorem dX3_countAbove_34 : decode cX3_countAbove 34 = .ok (.ifCond .eq 13, 3) := by decide +kernel
theorem dX3_countAbove_37 : decode cX3_countAbove 37 = .ok (.iload 5, 2) := by decide +kernel
theorem dX3_countAbove_39 : decode cX3_countAbove 39 = .ok (.iload_n 3, 1) := by decide +kernel
theorem dX3_countAbove_40 : decode cX3_countAbove 40 = .ok (.ineg, 1) := by decide +kernel
theorem dX3_countAbove_41 : decode cX3_countAbove 41 = .ok (.if_icmp .ne 6, 3) := by decide +kernel
theorem dX3_countAbove_44 : decode cX3_countAbove 44 = .ok (.iinc 2 1, 3) := by decide +kernel
theorem dX3_countAbove_47 : decode cX3_countAbove 47 = .ok (.iload 5, 2) := by decide +kernel
theorem dX3_countAbove_49 : decode cX3_countAbove 49 = .ok (.ifCond .eq 8, 3) := by decide +kernel
theorem dX3_countAbove_52 : decode cX3_countAbove 52 = .ok (.iload 5, 2) := by decide +kernel
theorem dX3_countAbove_54 : decode cX3_countAbove 54 = .ok (.goto 4, 3) := by decide +kernel
theorem dX3_countAbove_57 : decode cX3_countAbove 57 = .ok (.iload_n 3, 1) := by decide +kernel
theorem dX3_countAbove_58 : decode cX3_countAbove 58 = .ok (.istore_n 3, 1) := by decide +kernel
theorem dX3_countAbove_59 : decode cX3_countAbove 59 = .ok (.iinc 4 (-1), 3) := by decide +kernel
theorem dX3_countAbove_62 : decode cX3_countAbove 62 = .ok (.goto (-47), 3) := by decide +kernel
theorem dX3_countAbove_65 : decode cX3_countAbove 65 = .ok (.iload_n 2, 1) := by decide +kernel
theorem dX3_countAbove_66 : decode cX3_countAbove 66 = .ok (.ireturn, 1) := by decide +kernel
theorem dX3_countAt_0 : decode cX3_countAt 0 = .ok (.aload_n 0, 1) := by decide +kernel
theorem dX3_countAt_1 : decode cX3_countAt 1 = .ok (.iload_n 1, 1) := by decide +kernel
theorem dX3_countAt_2 : decode cX3_countAt 2 = .ok (.invokevirtual 45, 3) := by decide +kernel
theorem dX3_countAt_5 : decode cX3_countAt 5 = .ok (.iconst 0, 1) := by decide +kernel
theorem dX3_countAt_6 : decode cX3_countAt 6 = .ok (.istore_n 2, 1) := by decide +kernel
theorem dX3_countAt_7 : decode cX3_countAt 7 = .ok (.iload_n 2, 1) := by decide +kernel
theorem dX3_countAt_8 : decode cX3_countAt 8 = .ok (.aload_n 0, 1) := by decide +kernel
theorem dX3_countAt_9 : decode cX3_countAt 9 = .ok (.getfield 37, 3) := by decide +kernel
theorem dX3_countAt_12 : decode cX3_countAt 12 = .ok (.if_icmp .ge 20, 3) := by decide +kernel
theorem dX3_countAt_15 : decode cX3_countAt 15 = .ok (.aload_n 0, 1) := by decide +kernel
theorem dX3_countAt_16 : decode cX3_countAt 16 = .ok (.getfield 28, 3) := by decide +kernel
theorem dX3_countAt_19 : decode cX3_countAt 19 = .ok (.iload_n 2, 1) := by decide +kernel
theorem dX3_countAt_20 : decode cX3_countAt 20 = .ok (.laload, 1) := by decide +kernel
theorem dX3_countAt_21 : decode cX3_countAt 21 = .ok (.lconst 0, 1) := by decide +kernel
theorem dX3_countAt_22 : decode cX3_countAt 22 = .ok (.lcmp, 1) := by decide +kernel
theorem dX3_countAt_23 : decode cX3_countAt 23 = .ok (.ifCond .ne 9, 3) := by decide +kernel
theorem dX3_countAt_26 : decode cX3_countAt 26 = .ok (.iinc 2 1, 3) := by decide +kernel
theorem dX3_countAt_29 : decode cX3_countAt 29 = .ok (.goto (-22), 3) := by decide +kernel
theorem dX3_countAt_32 : decode cX3_countAt 32 = .ok (.iload_n 2, 1) := by decide +kernel
theorem dX3_countAt_33 : decode cX3_countAt 33 = .ok (.ireturn, 1) := by decide +kernel
theorem dX3_countBelow_0 : decode cX3_countBelow 0 = .ok (.aload_n 0, 1) := by decide +kernel
theorem dX3_countBelow_1 : decode cX3_countBelow 1 = .ok (.getfield 37, 3) := by decide +kernel
theorem dX3_countBelow_4 : decode cX3_countBelow 4 = .ok (.aload_n 0, 1) := by decide +kernel
theorem dX3_countBelow_5 : decode cX3_countBelow 5 = .ok (.iload_n 1, 1) := by decide +kernel
theorem dX3_countBelow_6 : decode cX3_countBelow 6 = .ok (.invokevirtual 55, 3) := by decide +kernel
theorem dX3_countBelow_9 : decode cX3_countBelow 9 = .ok (.isub, 1) := by decide +kernel
theorem dX3_countBelow_10 : decode cX3_countBelow 10 = .ok (.aload_n 0, 1) := by decide +kernel
theorem dX3_countBelow_11 : decode cX3_countBelow 11 = .ok (.iload_n 1, 1) := by decide +kernel
theorem dX3_countBelow_12 : decode cX3_countBelow 12 = .ok (.invokevirtual 59, 3) := by decide +kernel
theorem dX3_countBelow_15 : decode cX3_countBelow 15 = .ok (.isub, 1) := by decide +kernel
theorem dX3_countBelow_16 : decode cX3_countBelow 16 = .ok (.ireturn, 1) := by decide +kernel
theorem dX3_width_0 : decode cX3_width 0 = .ok (.iconst 0, 1) := by decide +kernel
theorem dX3_width_1 : decode cX3_width 1 = .ok (.istore_n 1, 1) := by decide +kernel
theorem dX3_width_2 : decode cX3_width 2 = .ok (.iload_n 1, 1) := by decide +kernel
theorem dX3_width_3 : decode cX3_width 3 = .ok (.bipush 18, 2) := by decide +kernel
theorem dX3_width_5 : decode cX3_width 5 = .ok (.if_icmp .ge 28, 3) := by decide +kernel
theorem dX3_width_8 : decode cX3_width 8 = .ok (.aload_n 0, 1) := by decide +kernel
theorem dX3_width_9 : decode cX3_width 9 = .ok (.iload_n 1, 1) := by decide +kernel
theorem dX3_width_10 : decode cX3_width 10 = .ok (.invokevirtual 55, 3) := by decide +kernel
theorem dX3_width_13 : decode cX3_width 13 = .ok (.ifCond .ne 14, 3) := by decide +kernel
theorem dX3_width_16 : decode cX3_width 16 = .ok (.aload_n 0, 1) := by decide +kernel
theorem dX3_width_17 : decode cX3_width 17 = .ok (.iload_n 1, 1) := by decide +kernel
theorem dX3_width_18 : decode cX3_width 18 = .ok (.ineg, 1) := by decide +kernel
theorem dX3_width_19 : decode cX3_width 19 = .ok (.invokevirtual 62, 3) := by decide +kernel
theorem dX3_width_22 : decode cX3_width 22 = .ok (.ifCond .ne 5, 3) := by decide +kernel
theorem dX3_width_25 : decode cX3_width 25 = .ok (.iload_n 1, 1) := by decide +kernel
theorem dX3_width_26 : decode cX3_width 26 = .ok (.ireturn, 1) := by decide +kernel
theorem dX3_width_27 : decode cX3_width 27 = .ok (.iinc 1 1, 3) := by decide +kernel
theorem dX3_width_30 : decode cX3_width 30 = .ok (.goto (-28), 3) := by decide +kernel
theorem dX3_width_33 : decode cX3_width 33 = .ok (.bipush 18, 2) := by decide +kernel
theorem dX3_width_35 : decode cX3_width 35 = .ok (.ireturn, 1) := by decide +kernel
theorem dX3_fillTable_0 : decode cX3_fillTable 0 = .ok (.iconst 0, 1) := by decide +kernel
theorem dX3_fillTable_1 : decode cX3_fillTable 1 = .ok (.istore_n 3, 1) := by decide +kernel
theorem dX3_fillTable_2 : decode cX3_fillTable 2 = .ok (.iconst 0, 1) := by decide +kernel
theorem dX3_fillTable_3 : decode cX3_fillTable 3 = .ok (.istore 4, 2) := by decide +kernel
theorem dX3_fillTable_5 : decode cX3_fillTable 5 = .ok (.iload 4, 2) := by decide +kernel
theorem dX3_fillTable_7 : decode cX3_fillTable 7 = .ok (.aload_n 0, 1) := by decide +kernel
theorem dX3_fillTable_8 : decode cX3_fillTable 8 = .ok (.getfield 37, 3) := by decide +kernel
theorem dX3_fillTable_11 : decode cX3_fillTable 11 = .ok (.if_icmp .ge 104, 3) := by decide +kernel
theorem dX3_fillTable_14 : decode cX3_fillTable 14 = .ok (.aload_n 0, 1) := by decide +kernel
theorem dX3_fillTable_15 : decode cX3_fillTable 15 = .ok (.getfield 11, 3) := by decide +kernel
theorem dX3_fillTable_18 : decode cX3_fillTable 18 = .ok (.iload 4, 2) := by decide +kernel
theorem dX3_fillTable_20 : decode cX3_fillTable 20 = .ok (.aaload, 1) := by decide +kernel
theorem dX3_fillTable_21 : decode cX3_fillTable 21 = .ok (.iload 4, 2) := by decide +kernel
theorem dX3_fillTable_23 : decode cX3_fillTable 23 = .ok (.iconst 0, 1) := by decide +kernel
theorem dX3_fillTable_24 : decode cX3_fillTable 24 = .ok (.iastore, 1) := by decide +kernel
theorem dX3_fillTable_25 : decode cX3_fillTable 25 = .ok (.iload 4, 2) := by decide +kernel
theorem dX3_fillTable_27 : decode cX3_fillTable 27 = .ok (.iconst 1, 1) := by decide +kernel
theorem dX3_fillTable_28 : decode cX3_fillTable 28 = .ok (.iadd, 1) := by decide +kernel
theorem dX3_fillTable_29 : decode cX3_fillTable 29 = .ok (.istore 5, 2) := by decide +kernel
theorem dX3_fillTable_31 : decode cX3_fillTable 31 = .ok (.iload 5, 2) := by decide +kernel
theorem dX3_fillTable_33 : decode cX3_fillTable 33 = .ok (.aload_n 0, 1) := by decide +kernel
theorem dX3_fillTable_34 : decode cX3_fillTable 34 = .ok (.getfield 37, 3) := by decide +kernel
theorem dX3_fillTable_37 : decode cX3_fillTable 37 = .ok (.if_icmp .ge 72, 3) := by decide +kernel
theorem dX3_fillTable_40 : decode cX3_fillTable 40 = .ok (.iconst 0, 1) := by decide +kernel
theorem dX3_fillTable_41 : decode cX3_fillTable 41 = .ok (.istore 6, 2) := by decide +kernel
theorem dX3_fillTable_43 : decode cX3_fillTable 43 = .ok (.aload_n 1, 1) := by decide +kernel
theorem dX3_fillTable_44 : decode cX3_fillTable 44 = .ok (.iload 4, 2) := by decide +kernel
theorem dX3_fillTable_46 : decode cX3_fillTable 46 = .ok (.iload 5, 2) := by decide +kernel
theorem dX3_fillTable_48 : decode cX3_fillTable 48 = .ok (.invokevirtual 65, 3) := by decide +kernel
theorem dX3_fillTable_51 : decode cX3_fillTable 51 = .ok (.ifCond .eq 28, 3) := by decide +kernel
theorem dX3_fillTable_54 : decode cX3_fillTable 54 = .ok (.iload_n 3, 1) := by decide +kernel
theorem dX3_fillTable_55 : decode cX3_fillTable 55 = .ok (.bipush 31, 2) := by decide +kernel
theorem dX3_fillTable_57 : decode cX3_fillTable 57 = .ok (.if_icmp .ge 16, 3) := by decide +kernel
theorem dX3_fillTable_60 : decode cX3_fillTable 60 = .ok (.iload_n 2, 1) := by decide +kernel
theorem dX3_fillTable_61 : decode cX3_fillTable 61 = .ok (.iload_n 3, 1) := by decide +kernel
theorem dX3_fillTable_62 : decode cX3_fillTable 62 = .ok (.ishr, 1) := by decide +kernel
theorem dX3_fillTable_63 : decode cX3_fillTable 63 = .ok (.iconst 1, 1) := by decide +kernel
theorem dX3_fillTable_64 : decode cX3_fillTable 64 = .ok (.iand, 1) := by decide +kernel
theorem dX3_fillTable_65 : decode cX3_fillTable 65 = .ok (.iconst 1, 1) := by decide +kernel
theorem dX3_fillTable_66 : decode cX3_fillTable 66 = .ok (.if_icmp .ne 7, 3) := by decide +kernel
theorem dX3_fillTable_69 : decode cX3_fillTable 69 = .ok (.iconst (-1), 1) := by decide +kernel
theorem dX3_fillTable_70 : decode cX3_fillTable 70 = .ok (.goto 4, 3) := by decide +kernel
theorem dX3_fillTable_73 : decode cX3_fillTable 73 = .ok (.iconst 1, 1) := by decide +kernel
theorem dX3_fillTable_74 : decode cX3_fillTable 74 = .ok (.istore 6, 2) := by decide +kernel
theorem dX3_fillTable_76 : decode cX3_fillTable 76 = .ok (.iinc 3 1, 3) := by decide +kernel
theorem dX3_fillTable_79 : decode cX3_fillTable 79 = .ok (.aload_n 0, 1) := by decide +kernel
theorem dX3_fillTable_80 : decode cX3_fillTable 80 = .ok (.getfield 11, 3) := by decide +kernel
theorem dX3_fillTable_83 : decode cX3_fillTable 83 = .ok (.iload 4, 2) := by decide +kernel
theorem dX3_fillTable_85 : decode cX3_fillTable 85 = .ok (.aaload, 1) := by decide +kernel
theorem dX3_fillTable_86 : decode cX3_fillTable 86 = .ok (.iload 5, 2) := by decide +kernel
theorem dX3_fillTable_88 : decode cX3_fillTable 88 = .ok (.iload 6, 2) := by decide +kernel
theorem dX3_fillTable_90 : decode cX3_fillTable 90 = .ok (.iastore, 1) := by decide +kernel
theorem dX3_fillTable_91 : decode cX3_fillTable 91 = .ok (.aload_n 0, 1) := by decide +kernel
theorem dX3_fillTable_92 : decode cX3_fillTable 92 = .ok (.getfield 11, 3) := by decide +kernel
theorem dX3_fillTable_95 : decode cX3_fillTable 95 = .ok (.iload 5, 2) := by decide +kernel
theorem dX3_fillTable_97 : decode cX3_fillTable 97 = .ok (.aaload, 1) := by decide +kernel
theorem dX3_fillTable_98 : decode cX3_fillTable 98 = .ok (.iload 4, 2) := by decide +kernel
theorem dX3_fillTable_100 : decode cX3_fillTable 100 = .ok (.iload 6, 2) := by decide +kernel
theorem dX3_fillTable_102 : decode cX3_fillTable 102 = .ok (.iastore, 1) := by decide +kernel
theorem dX3_fillTable_103 : decode cX3_fillTable 103 = .ok (.iinc 5 1, 3) := by decide +kernel
theorem dX3_fillTable_106 : decode cX3_fillTable 106 = .ok (.goto (-75), 3) := by decide +kernel
theorem dX3_fillTable_109 : decode cX3_fillTable 109 = .ok (.iinc 4 1, 3) := by decide +kernel
theorem dX3_fillTable_112 : decode cX3_fillTable 112 = .ok (.goto (-107), 3) := by decide +kernel
theorem dX3_fillTable_115 : decode cX3_fillTable 115 = .ok (.return_, 1) := by decide +kernel
theorem dX3_findPolynomial_0 : decode cX3_findPolynomial 0 = .ok (.aload_n 0, 1) := by decide +kernel
theorem dX3_findPolynomial_1 : decode cX3_findPolynomial 1 = .ok (.getfield 24, 3) := by decide +kernel
theorem dX3_findPolynomial_4 : decode cX3_findPolynomial 4 = .ok (.aload_n 0, 1) := by decide +kernel
theorem dX3_findPolynomial_5 : decode cX3_findPolynomial 5 = .ok (.getfield 37, 3) := by decide +kernel
theorem dX3_findPolynomial_8 : decode cX3_findPolynomial 8 = .ok (.lconst 1, 1) := by decide +kernel
theorem dX3_findPolynomial_9 : decode cX3_findPolynomial 9 = .ok (.lastore, 1) := by decide +kernel
theorem dX3_findPolynomial_10 : decode cX3_findPolynomial 10 = .ok (.iconst 0, 1) := by decide +kernel
theorem dX3_findPolynomial_11 : decode cX3_findPolynomial 11 = .ok (.istore_n 1, 1) := by decide +kernel
theorem dX3_findPolynomial_12 : decode cX3_findPolynomial 12 = .ok (.iload_n 1, 1) := by decide +kernel
theorem dX3_findPolynomial_13 : decode cX3_findPolynomial 13 = .ok (.aload_n 0, 1) := by decide +kernel
theorem dX3_findPolynomial_14 : decode cX3_findPolynomial 14 = .ok (.getfield 37, 3) := by decide +kernel
theorem dX3_findPolynomial_17 : decode cX3_findPolynomial 17 = .ok (.if_icmp .ge 28, 3) := by decide +kernel
theorem dX3_findPolynomial_20 : decode cX3_findPolynomial 20 = .ok (.aload_n 0, 1) := by decide +kernel
theorem dX3_findPolynomial_21 : decode cX3_findPolynomial 21 = .ok (.getfield 18, 3) := by decide +kernel
theorem dX3_findPolynomial_24 : decode cX3_findPolynomial 24 = .ok (.iload_n 1, 1) := by decide +kernel
theorem dX3_findPolynomial_25 : decode cX3_findPolynomial 25 = .ok (.aaload, 1) := by decide +kernel
theorem dX3_findPolynomial_26 : decode cX3_findPolynomial 26 = .ok (.lconst 0, 1) := by decide +kernel
theorem dX3_findPolynomial_27 : decode cX3_findPolynomial 27 = .ok (.invokestatic 69, 3) := by decide +kernel
theorem dX3_findPolynomial_30 : decode cX3_findPolynomial 30 = .ok (.aload_n 0, 1) := by decide +kernel
theorem dX3_findPolynomial_31 : decode cX3_findPolynomial 31 = .ok (.getfield 18, 3) := by decide +kernel
theorem dX3_findPolynomial_34 : decode cX3_findPolynomial 34 = .ok (.iload_n 1, 1) := by decide +kernel
theorem dX3_findPolynomial_35 : decode cX3_findPolynomial 35 = .ok (.aaload, 1) := by decide +kernel
theorem dX3_findPolynomial_36 : decode cX3_findPolynomial 36 = .ok (.iload_n 1, 1) := by decide +kernel
theorem dX3_findPolynomial_37 : decode cX3_findPolynomial 37 = .ok (.lconst 1, 1) := by decide +kernel
theorem dX3_findPolynomial_38 : decode cX3_findPolynomial 38 = .ok (.lastore, 1) := by decide +kernel
theorem dX3_findPolynomial_39 : decode cX3_findPolynomial 39 = .ok (.iinc 1 1, 3) := by decide +kernel
theorem dX3_findPolynomial_42 : decode cX3_findPolynomial 42 = .ok (.goto (-30), 3) := by decide +kernel
theorem dX3_findPolynomial_45 : decode cX3_findPolynomial 45 = .ok (.iconst 1, 1) := by decide +kernel
theorem dX3_findPolynomial_46 : decode cX3_findPolynomial 46 = .ok (.istore_n 1, 1) := by decide +kernel
theorem dX3_findPolynomial_47 : decode cX3_findPolynomial 47 = .ok (.iload_n 1, 1) := by decide +kernel
theorem dX3_findPolynomial_48 : decode cX3_findPolynomial 48 = .ok (.aload_n 0, 1) := by decide +kernel
theorem dX3_findPolynomial_49 : decode cX3_findPolynomial 49 = .ok (.getfield 37, 3) := by decide +kernel
theorem dX3_findPolynomial_52 : decode cX3_findPolynomial 52 = .ok (.if_icmp .gt 89, 3) := by decide +kernel
theorem dX3_findPolynomial_55 : decode cX3_findPolynomial 55 = .ok (.aload_n 0, 1) := by decide +kernel
theorem dX3_findPolynomial_56 : decode cX3_findPolynomial 56 = .ok (.invokevirtual 75, 3) := by decide +kernel
theorem dX3_findPolynomial_59 : decode cX3_findPolynomial 59 = .ok (.lstore_n 2, 1) := by decide +kernel
theorem dX3_findPolynomial_60 : decode cX3_findPolynomial 60 = .ok (.lload_n 2, 1) := by decide +kernel
theorem dX3_findPolynomial_61 : decode cX3_findPolynomial 61 = .ok (.lneg, 1) := by decide +kernel
theorem dX3_findPolynomial_62 : decode cX3_findPolynomial 62 = .ok (.iload_n 1, 1) := by decide +kernel
theorem dX3_findPolynomial_63 : decode cX3_findPolynomial 63 = .ok (.i2l, 1) := by decide +kernel
theorem dX3_findPolynomial_64 : decode cX3_findPolynomial 64 = .ok (.ldiv, 1) := by decide +kernel
theorem dX3_findPolynomial_65 : decode cX3_findPolynomial 65 = .ok (.lstore 4, 2) := by decide +kernel
theorem dX3_findPolynomial_67 : decode cX3_findPolynomial 67 = .ok (.aload_n 0, 1) := by decide +kernel
theorem dX3_findPolynomial_68 : decode cX3_findPolynomial 68 = .ok (.getfield 24, 3) := by decide +kernel
theorem dX3_findPolynomial_71 : decode cX3_findPolynomial 71 = .ok (.aload_n 0, 1) := by decide +kernel
theorem dX3_findPolynomial_72 : decode cX3_findPolynomial 72 = .ok (.getfield 37, 3) := by decide +kernel
theorem dX3_findPolynomial_75 : decode cX3_findPolynomial 75 = .ok (.iload_n 1, 1) := by decide +kernel
theorem dX3_findPolynomial_76 : decode cX3_findPolynomial 76 = .ok (.isub, 1) := by decide +kernel
theorem dX3_findPolynomial_77 : decode cX3_findPolynomial 77 = .ok (.lload 4, 2) := by decide +kernel
theorem dX3_findPolynomial_79 : decode cX3_findPolynomial 79 = .ok (.iload_n 1, 1) := by decide +kernel
theorem dX3_findPolynomial_80 : decode cX3_findPolynomial 80 = .ok (.lshl, 1) := by decide +kernel
theorem dX3_findPolynomial_81 : decode cX3_findPolynomial 81 = .ok (.lastore, 1) := by decide +kernel
theorem dX3_findPolynomial_82 : decode cX3_findPolynomial 82 = .ok (.iconst 0, 1) := by decide +kernel
theorem dX3_findPolynomial_83 : decode cX3_findPolynomial 83 = .ok (.istore 6, 2) := by decide +kernel
theorem dX3_findPolynomial_85 : decode cX3_findPolynomial 85 = .ok (.iload 6, 2) := by decide +kernel
theorem dX3_findPolynomial_87 : decode cX3_findPolynomial 87 = .ok (.aload_n 0, 1) := by decide +kernel
theorem dX3_findPolynomial_88 : decode cX3_findPolynomial 88 = .ok (.getfield 37, 3) := by decide +kernel
theorem dX3_findPolynomial_91 : decode cX3_findPolynomial 91 = .ok (.if_icmp .ge 24, 3) := by decide +kernel
theorem dX3_findPolynomial_94 : decode cX3_findPolynomial 94 = .ok (.aload_n 0, 1) := by decide +kernel
theorem dX3_findPolynomial_95 : decode cX3_findPolynomial 95 = .ok (.getfield 21, 3) := by decide +kernel
theorem dX3_findPolynomial_98 : decode cX3_findPolynomial 98 = .ok (.iload 6, 2) := by decide +kernel
theorem dX3_findPolynomial_100 : decode cX3_findPolynomial 100 = .ok (.aaload, 1) := by decide +kernel
theorem dX3_findPolynomial_101 : decode cX3_findPolynomial 101 = .ok (.iload 6, 2) := by decide +kernel
theorem dX3_findPolynomial_103 : decode cX3_findPolynomial 103 = .ok (.dup2, 1) := by decide +kernel
theorem dX3_findPolynomial_104 : decode cX3_findPolynomial 104 = .ok (.laload, 1) := by decide +kernel
theorem dX3_findPolynomial_105 : decode cX3_findPolynomial 105 = .ok (.lload 4, 2) := by decide +kernel
theorem dX3_findPolynomial_107 : decode cX3_findPolynomial 107 = .ok (.ladd, 1) := by decide +kernel
theorem dX3_findPolynomial_108 : decode cX3_findPolynomial 108 = .ok (.lastore, 1) := by decide +kernel
theorem dX3_findPolynomial_109 : decode cX3_findPolynomial 109 = .ok (.iinc 6 1, 3) := by decide +kernel
theorem dX3_findPolynomial_112 : decode cX3_findPolynomial 112 = .ok (.goto (-27), 3) := by decide +kernel
theorem dX3_findPolynomial_115 : decode cX3_findPolynomial 115 = .ok (.aload_n 0, 1) := by decide +kernel
theorem dX3_findPolynomial_116 : decode cX3_findPolynomial 116 = .ok (.getfield 18, 3) := by decide +kernel
theorem dX3_findPolynomial_119 : decode cX3_findPolynomial 119 = .ok (.astore 6, 2) := by decide +kernel
theorem dX3_findPolynomial_121 : decode cX3_findPolynomial 121 = .ok (.aload_n 0, 1) := by decide +kernel
theorem dX3_findPolynomial_122 : decode cX3_findPolynomial 122 = .ok (.aload_n 0, 1) := by decide +kernel
theorem dX3_findPolynomial_123 : decode cX3_findPolynomial 123 = .ok (.getfield 21, 3) := by decide +kernel
theorem dX3_findPolynomial_126 : decode cX3_findPolynomial 126 = .ok (.putfield 18, 3) := by decide +kernel
theorem dX3_findPolynomial_129 : decode cX3_findPolynomial 129 = .ok (.aload_n 0, 1) := by decide +kernel
theorem dX3_findPolynomial_130 : decode cX3_findPolynomial 130 = .ok (.aload 6, 2) := by decide +kernel
theorem dX3_findPolynomial_132 : decode cX3_findPolynomial 132 = .ok (.putfield 21, 3) := by decide +kernel
theorem dX3_findPolynomial_135 : decode cX3_findPolynomial 135 = .ok (.iinc 1 1, 3) := by decide +kernel
theorem dX3_findPolynomial_138 : decode cX3_findPolynomial 138 = .ok (.goto (-91), 3) := by decide +kernel
theorem dX3_findPolynomial_141 : decode cX3_findPolynomial 141 = .ok (.return_, 1) := by decide +kernel
theorem dX3_multiplyRows_0 : decode cX3_multiplyRows 0 = .ok (.lconst 0, 1) := by decide +kernel
theorem dX3_multiplyRows_1 : decode cX3_multiplyRows 1 = .ok (.lstore_n 1, 1) := by decide +kernel
theorem dX3_multiplyRows_2 : decode cX3_multiplyRows 2 = .ok (.iconst 0, 1) := by decide +kernel
theorem dX3_multiplyRows_3 : decode cX3_multiplyRows 3 = .ok (.istore_n 3, 1) := by decide +kernel
theorem dX3_multiplyRows_4 : decode cX3_multiplyRows 4 = .ok (.iload_n 3, 1) := by decide +kernel
theorem dX3_multiplyRows_5 : decode cX3_multiplyRows 5 = .ok (.aload_n 0, 1) := by decide +kernel
theorem dX3_multiplyRows_6 : decode cX3_multiplyRows 6 = .ok (.getfield 37, 3) := by decide +kernel
theorem dX3_multiplyRows_9 : decode cX3_multiplyRows 9 = .ok (.if_icmp .ge 86, 3) := by decide +kernel
theorem dX3_multiplyRows_12 : decode cX3_multiplyRows 12 = .ok (.aload_n 0, 1) := by decide +kernel
theorem dX3_multiplyRows_13 : decode cX3_multiplyRows 13 = .ok (.getfield 21, 3) := by decide +kernel
theorem dX3_multiplyRows_16 : decode cX3_multiplyRows 16 = .ok (.iload_n 3, 1) := by decide +kernel
theorem dX3_multiplyRows_17 : decode cX3_multiplyRows 17 = .ok (.aaload, 1) := by decide +kernel
theorem dX3_multiplyRows_18 : decode cX3_multiplyRows 18 = .ok (.lconst 0, 1) := by decide +kernel
theorem dX3_multiplyRows_19 : decode cX3_multiplyRows 19 = .ok (.invokestatic 69, 3) := by decide +kernel
theorem dX3_multiplyRows_22 : decode cX3_multiplyRows 22 = .ok (.iconst 0, 1) := by decide +kernel
theorem dX3_multiplyRows_23 : decode cX3_multiplyRows 23 = .ok (.istore 4, 2) := by decide +kernel
theorem dX3_multiplyRows_25 : decode cX3_multiplyRows 25 = .ok (.iload 4, 2) := by decide +kernel
theorem dX3_multiplyRows_27 : decode cX3_multiplyRows 27 = .ok (.aload_n 0, 1) := by decide +kernel
theorem dX3_multiplyRows_28 : decode cX3_multiplyRows 28 = .ok (.getfield 37, 3) := by decide +kernel
theorem dX3_multiplyRows_31 : decode cX3_multiplyRows 31 = .ok (.if_icmp .ge 47, 3) := by decide +kernel
theorem dX3_multiplyRows_34 : decode cX3_multiplyRows 34 = .ok (.aload_n 0, 1) := by decide +kernel
theorem dX3_multiplyRows_35 : decode cX3_multiplyRows 35 = .ok (.getfield 11, 3) := by decide +kernel
theorem dX3_multiplyRows_38 : decode cX3_multiplyRows 38 = .ok (.iload_n 3, 1) := by decide +kernel
theorem dX3_multiplyRows_39 : decode cX3_multiplyRows 39 = .ok (.aaload, 1) := by decide +kernel
theorem dX3_multiplyRows_40 : decode cX3_multiplyRows 40 = .ok (.iload 4, 2) := by decide +kernel
theorem dX3_multiplyRows_42 : decode cX3_multiplyRows 42 = .ok (.iaload, 1) := by decide +kernel
theorem dX3_multiplyRows_43 : decode cX3_multiplyRows 43 = .ok (.ifCond .eq 29, 3) := by decide +kernel
theorem dX3_multiplyRows_46 : decode cX3_multiplyRows 46 = .ok (.aload_n 0, 1) := by decide +kernel
theorem dX3_multiplyRows_47 : decode cX3_multiplyRows 47 = .ok (.aload_n 0, 1) := by decide +kernel
theorem dX3_multiplyRows_48 : decode cX3_multiplyRows 48 = .ok (.getfield 21, 3) := by decide +kernel
theorem dX3_multiplyRows_51 : decode cX3_multiplyRows 51 = .ok (.iload_n 3, 1) := by decide +kernel
theorem dX3_multiplyRows_52 : decode cX3_multiplyRows 52 = .ok (.aaload, 1) := by decide +kernel
theorem dX3_multiplyRows_53 : decode cX3_multiplyRows 53 = .ok (.aload_n 0, 1) := by decide +kernel
theorem dX3_multiplyRows_54 : decode cX3_multiplyRows 54 = .ok (.getfield 18, 3) := by decide +kernel
theorem dX3_multiplyRows_57 : decode cX3_multiplyRows 57 = .ok (.iload 4, 2) := by decide +kernel
theorem dX3_multiplyRows_59 : decode cX3_multiplyRows 59 = .ok (.aaload, 1) := by decide +kernel
theorem dX3_multiplyRows_60 : decode cX3_multiplyRows 60 = .ok (.aload_n 0, 1) := by decide +kernel
theorem dX3_multiplyRows_61 : decode cX3_multiplyRows 61 = .ok (.getfield 11, 3) := by decide +kernel
theorem dX3_multiplyRows_64 : decode cX3_multiplyRows 64 = .ok (.iload_n 3, 1) := by decide +kernel
theorem dX3_multiplyRows_65 : decode cX3_multiplyRows 65 = .ok (.aaload, 1) := by decide +kernel
theorem dX3_multiplyRows_66 : decode cX3_multiplyRows 66 = .ok (.iload 4, 2) := by decide +kernel
end
section
theorem dX3_multiplyRows_68 : decode cX3_multiplyRows 68 = .ok (.iaload, 1) := by decide +kernel
theorem dX3_multiplyRows_69 : decode cX3_multiplyRows 69 = .ok (.invokevirtual 79, 3) := by decide +kernel
theorem dX3_multiplyRows_72 : decode cX3_multiplyRows 72 = .ok (.iinc 4 1, 3) := by decide +kernel
theorem dX3_multiplyRows_75 : decode cX3_multiplyRows 75 = .ok (.goto (-50), 3) := by decide +kernel
theorem dX3_multiplyRows_78 : decode cX3_multiplyRows 78 = .ok (.lload_n 1, 1) := by decide +kernel
theorem dX3_multiplyRows_79 : decode cX3_multiplyRows 79 = .ok (.aload_n 0, 1) := by decide +kernel
theorem dX3_multiplyRows_80 : decode cX3_multiplyRows 80 = .ok (.getfield 21, 3) := by decide +kernel
theorem dX3_multiplyRows_83 : decode cX3_multiplyRows 83 = .ok (.iload_n 3, 1) := by decide +kernel
theorem dX3_multiplyRows_84 : decode cX3_multiplyRows 84 = .ok (.aaload, 1) := by decide +kernel
theorem dX3_multiplyRows_85 : decode cX3_multiplyRows 85 = .ok (.iload_n 3, 1) := by decide +kernel
theorem dX3_multiplyRows_86 : decode cX3_multiplyRows 86 = .ok (.laload, 1) := by decide +kernel
theorem dX3_multiplyRows_87 : decode cX3_multiplyRows 87 = .ok (.ladd, 1) := by decide +kernel
theorem dX3_multiplyRows_88 : decode cX3_multiplyRows 88 = .ok (.lstore_n 1, 1) := by decide +kernel
theorem dX3_multiplyRows_89 : decode cX3_multiplyRows 89 = .ok (.iinc 3 1, 3) := by decide +kernel
theorem dX3_multiplyRows_92 : decode cX3_multiplyRows 92 = .ok (.goto (-88), 3) := by decide +kernel
theorem dX3_multiplyRows_95 : decode cX3_multiplyRows 95 = .ok (.lload_n 1, 1) := by decide +kernel
theorem dX3_multiplyRows_96 : decode cX3_multiplyRows 96 = .ok (.lreturn, 1) := by decide +kernel
theorem dX3_addRow_0 : decode cX3_addRow 0 = .ok (.iconst 0, 1) := by decide +kernel
theorem dX3_addRow_1 : decode cX3_addRow 1 = .ok (.istore 4, 2) := by decide +kernel
theorem dX3_addRow_3 : decode cX3_addRow 3 = .ok (.iload 4, 2) := by decide +kernel
theorem dX3_addRow_5 : decode cX3_addRow 5 = .ok (.aload_n 0, 1) := by decide +kernel
theorem dX3_addRow_6 : decode cX3_addRow 6 = .ok (.getfield 37, 3) := by decide +kernel
theorem dX3_addRow_9 : decode cX3_addRow 9 = .ok (.if_icmp .ge 23, 3) := by decide +kernel
theorem dX3_addRow_12 : decode cX3_addRow 12 = .ok (.aload_n 1, 1) := by decide +kernel
theorem dX3_addRow_13 : decode cX3_addRow 13 = .ok (.iload 4, 2) := by decide +kernel
theorem dX3_addRow_15 : decode cX3_addRow 15 = .ok (.dup2, 1) := by decide +kernel
theorem dX3_addRow_16 : decode cX3_addRow 16 = .ok (.laload, 1) := by decide +kernel
theorem dX3_addRow_17 : decode cX3_addRow 17 = .ok (.iload_n 3, 1) := by decide +kernel
theorem dX3_addRow_18 : decode cX3_addRow 18 = .ok (.i2l, 1) := by decide +kernel
theorem dX3_addRow_19 : decode cX3_addRow 19 = .ok (.aload_n 2, 1) := by decide +kernel
theorem dX3_addRow_20 : decode cX3_addRow 20 = .ok (.iload 4, 2) := by decide +kernel
theorem dX3_addRow_22 : decode cX3_addRow 22 = .ok (.laload, 1) := by decide +kernel
theorem dX3_addRow_23 : decode cX3_addRow 23 = .ok (.lmul, 1) := by decide +kernel
theorem dX3_addRow_24 : decode cX3_addRow 24 = .ok (.ladd, 1) := by decide +kernel
theorem dX3_addRow_25 : decode cX3_addRow 25 = .ok (.lastore, 1) := by decide +kernel
theorem dX3_addRow_26 : decode cX3_addRow 26 = .ok (.iinc 4 1, 3) := by decide +kernel
theorem dX3_addRow_29 : decode cX3_addRow 29 = .ok (.goto (-26), 3) := by decide +kernel
theorem dX3_addRow_32 : decode cX3_addRow 32 = .ok (.return_, 1) := by decide +kernel
theorem dX3_moveBy_0 : decode cX3_moveBy 0 = .ok (.aload_n 0, 1) := by decide +kernel
theorem dX3_moveBy_1 : decode cX3_moveBy 1 = .ok (.getfield 24, 3) := by decide +kernel
theorem dX3_moveBy_4 : decode cX3_moveBy 4 = .ok (.iconst 0, 1) := by decide +kernel
theorem dX3_moveBy_5 : decode cX3_moveBy 5 = .ok (.aload_n 0, 1) := by decide +kernel
theorem dX3_moveBy_6 : decode cX3_moveBy 6 = .ok (.getfield 28, 3) := by decide +kernel
theorem dX3_moveBy_9 : decode cX3_moveBy 9 = .ok (.iconst 0, 1) := by decide +kernel
theorem dX3_moveBy_10 : decode cX3_moveBy 10 = .ok (.aload_n 0, 1) := by decide +kernel
theorem dX3_moveBy_11 : decode cX3_moveBy 11 = .ok (.getfield 37, 3) := by decide +kernel
theorem dX3_moveBy_14 : decode cX3_moveBy 14 = .ok (.iconst 1, 1) := by decide +kernel
theorem dX3_moveBy_15 : decode cX3_moveBy 15 = .ok (.iadd, 1) := by decide +kernel
theorem dX3_moveBy_16 : decode cX3_moveBy 16 = .ok (.invokestatic 83, 3) := by decide +kernel
theorem dX3_moveBy_19 : decode cX3_moveBy 19 = .ok (.iconst 0, 1) := by decide +kernel
theorem dX3_moveBy_20 : decode cX3_moveBy 20 = .ok (.istore_n 2, 1) := by decide +kernel
theorem dX3_moveBy_21 : decode cX3_moveBy 21 = .ok (.iload_n 2, 1) := by decide +kernel
theorem dX3_moveBy_22 : decode cX3_moveBy 22 = .ok (.aload_n 0, 1) := by decide +kernel
theorem dX3_moveBy_23 : decode cX3_moveBy 23 = .ok (.getfield 37, 3) := by decide +kernel
theorem dX3_moveBy_26 : decode cX3_moveBy 26 = .ok (.if_icmp .ge 47, 3) := by decide +kernel
theorem dX3_moveBy_29 : decode cX3_moveBy 29 = .ok (.aload_n 0, 1) := by decide +kernel
theorem dX3_moveBy_30 : decode cX3_moveBy 30 = .ok (.getfield 37, 3) := by decide +kernel
theorem dX3_moveBy_33 : decode cX3_moveBy 33 = .ok (.iconst 1, 1) := by decide +kernel
theorem dX3_moveBy_34 : decode cX3_moveBy 34 = .ok (.isub, 1) := by decide +kernel
theorem dX3_moveBy_35 : decode cX3_moveBy 35 = .ok (.istore_n 3, 1) := by decide +kernel
theorem dX3_moveBy_36 : decode cX3_moveBy 36 = .ok (.iload_n 3, 1) := by decide +kernel
theorem dX3_moveBy_37 : decode cX3_moveBy 37 = .ok (.iload_n 2, 1) := by decide +kernel
theorem dX3_moveBy_38 : decode cX3_moveBy 38 = .ok (.if_icmp .lt 29, 3) := by decide +kernel
theorem dX3_moveBy_41 : decode cX3_moveBy 41 = .ok (.aload_n 0, 1) := by decide +kernel
theorem dX3_moveBy_42 : decode cX3_moveBy 42 = .ok (.getfield 28, 3) := by decide +kernel
theorem dX3_moveBy_45 : decode cX3_moveBy 45 = .ok (.iload_n 3, 1) := by decide +kernel
theorem dX3_moveBy_46 : decode cX3_moveBy 46 = .ok (.dup2, 1) := by decide +kernel
theorem dX3_moveBy_47 : decode cX3_moveBy 47 = .ok (.laload, 1) := by decide +kernel
theorem dX3_moveBy_48 : decode cX3_moveBy 48 = .ok (.iload_n 1, 1) := by decide +kernel
theorem dX3_moveBy_49 : decode cX3_moveBy 49 = .ok (.i2l, 1) := by decide +kernel
theorem dX3_moveBy_50 : decode cX3_moveBy 50 = .ok (.aload_n 0, 1) := by decide +kernel
theorem dX3_moveBy_51 : decode cX3_moveBy 51 = .ok (.getfield 28, 3) := by decide +kernel
theorem dX3_moveBy_54 : decode cX3_moveBy 54 = .ok (.iload_n 3, 1) := by decide +kernel
theorem dX3_moveBy_55 : decode cX3_moveBy 55 = .ok (.iconst 1, 1) := by decide +kernel
theorem dX3_moveBy_56 : decode cX3_moveBy 56 = .ok (.iadd, 1) := by decide +kernel
theorem dX3_moveBy_57 : decode cX3_moveBy 57 = .ok (.laload, 1) := by decide +kernel
theorem dX3_moveBy_58 : decode cX3_moveBy 58 = .ok (.lmul, 1) := by decide +kernel
theorem dX3_moveBy_59 : decode cX3_moveBy 59 = .ok (.ladd, 1) := by decide +kernel
theorem dX3_moveBy_60 : decode cX3_moveBy 60 = .ok (.lastore, 1) := by decide +kernel
theorem dX3_moveBy_61 : decode cX3_moveBy 61 = .ok (.iinc 3 (-1), 3) := by decide +kernel
theorem dX3_moveBy_64 : decode cX3_moveBy 64 = .ok (.goto (-28), 3) := by decide +kernel
theorem dX3_moveBy_67 : decode cX3_moveBy 67 = .ok (.iinc 2 1, 3) := by decide +kernel
theorem dX3_moveBy_70 : decode cX3_moveBy 70 = .ok (.goto (-49), 3) := by decide +kernel
theorem dX3_moveBy_73 : decode cX3_moveBy 73 = .ok (.return_, 1) := by decide +kernel
theorem dX4_init_0 : decode cX4_init 0 = .ok (.aload_n 0, 1) := by decide +kernel
theorem dX4_init_1 : decode cX4_init 1 = .ok (.invokespecial 3, 3) := by decide +kernel
theorem dX4_init_4 : decode cX4_init 4 = .ok (.aload_n 0, 1) := by decide +kernel
theorem dX4_init_5 : decode cX4_init 5 = .ok (.bipush 10, 2) := by decide +kernel
theorem dX4_init_7 : decode cX4_init 7 = .ok (.newarray .long, 2) := by decide +kernel
theorem dX4_init_9 : decode cX4_init 9 = .ok (.putfield 9, 3) := by decide +kernel
theorem dX4_init_12 : decode cX4_init 12 = .ok (.aload_n 0, 1) := by decide +kernel
theorem dX4_init_13 : decode cX4_init 13 = .ok (.bipush 10, 2) := by decide +kernel
theorem dX4_init_15 : decode cX4_init 15 = .ok (.newarray .long, 2) := by decide +kernel
theorem dX4_init_17 : decode cX4_init 17 = .ok (.putfield 15, 3) := by decide +kernel
theorem dX4_init_20 : decode cX4_init 20 = .ok (.return_, 1) := by decide +kernel
theorem dX4_walk_0 : decode cX4_walk 0 = .ok (.aload_n 0, 1) := by decide +kernel
theorem dX4_walk_1 : decode cX4_walk 1 = .ok (.getfield 9, 3) := by decide +kernel
theorem dX4_walk_4 : decode cX4_walk 4 = .ok (.lconst 0, 1) := by decide +kernel
theorem dX4_walk_5 : decode cX4_walk 5 = .ok (.invokestatic 18, 3) := by decide +kernel
theorem dX4_walk_8 : decode cX4_walk 8 = .ok (.aload_n 0, 1) := by decide +kernel
theorem dX4_walk_9 : decode cX4_walk 9 = .ok (.getfield 9, 3) := by decide +kernel
theorem dX4_walk_12 : decode cX4_walk 12 = .ok (.iload_n 2, 1) := by decide +kernel
theorem dX4_walk_13 : decode cX4_walk 13 = .ok (.lconst 1, 1) := by decide +kernel
theorem dX4_walk_14 : decode cX4_walk 14 = .ok (.lastore, 1) := by decide +kernel
theorem dX4_walk_15 : decode cX4_walk 15 = .ok (.iconst 0, 1) := by decide +kernel
theorem dX4_walk_16 : decode cX4_walk 16 = .ok (.istore 4, 2) := by decide +kernel
theorem dX4_walk_18 : decode cX4_walk 18 = .ok (.iload 4, 2) := by decide +kernel
theorem dX4_walk_20 : decode cX4_walk 20 = .ok (.iload_n 3, 1) := by decide +kernel
theorem dX4_walk_21 : decode cX4_walk 21 = .ok (.if_icmp .ge 34, 3) := by decide +kernel
theorem dX4_walk_24 : decode cX4_walk 24 = .ok (.aload_n 0, 1) := by decide +kernel
theorem dX4_walk_25 : decode cX4_walk 25 = .ok (.getfield 15, 3) := by decide +kernel
theorem dX4_walk_28 : decode cX4_walk 28 = .ok (.astore 5, 2) := by decide +kernel
theorem dX4_walk_30 : decode cX4_walk 30 = .ok (.aload_n 0, 1) := by decide +kernel
theorem dX4_walk_31 : decode cX4_walk 31 = .ok (.aload_n 0, 1) := by decide +kernel
theorem dX4_walk_32 : decode cX4_walk 32 = .ok (.getfield 9, 3) := by decide +kernel
theorem dX4_walk_35 : decode cX4_walk 35 = .ok (.putfield 15, 3) := by decide +kernel
theorem dX4_walk_38 : decode cX4_walk 38 = .ok (.aload_n 0, 1) := by decide +kernel
theorem dX4_walk_39 : decode cX4_walk 39 = .ok (.aload 5, 2) := by decide +kernel
theorem dX4_walk_41 : decode cX4_walk 41 = .ok (.putfield 9, 3) := by decide +kernel
theorem dX4_walk_44 : decode cX4_walk 44 = .ok (.aload_n 0, 1) := by decide +kernel
theorem dX4_walk_45 : decode cX4_walk 45 = .ok (.aload_n 1, 1) := by decide +kernel
theorem dX4_walk_46 : decode cX4_walk 46 = .ok (.invokevirtual 24, 3) := by decide +kernel
theorem dX4_walk_49 : decode cX4_walk 49 = .ok (.iinc 4 1, 3) := by decide +kernel
theorem dX4_walk_52 : decode cX4_walk 52 = .ok (.goto (-34), 3) := by decide +kernel
theorem dX4_walk_55 : decode cX4_walk 55 = .ok (.return_, 1) := by decide +kernel
theorem dX4_unevenness_0 : decode cX4_unevenness 0 = .ok (.lconst 0, 1) := by decide +kernel
theorem dX4_unevenness_1 : decode cX4_unevenness 1 = .ok (.lstore 4, 2) := by decide +kernel
theorem dX4_unevenness_3 : decode cX4_unevenness 3 = .ok (.iconst 0, 1) := by decide +kernel
theorem dX4_unevenness_4 : decode cX4_unevenness 4 = .ok (.istore 6, 2) := by decide +kernel
theorem dX4_unevenness_6 : decode cX4_unevenness 6 = .ok (.iload 6, 2) := by decide +kernel
theorem dX4_unevenness_8 : decode cX4_unevenness 8 = .ok (.iload_n 1, 1) := by decide +kernel
theorem dX4_unevenness_9 : decode cX4_unevenness 9 = .ok (.if_icmp .ge 29, 3) := by decide +kernel
theorem dX4_unevenness_12 : decode cX4_unevenness 12 = .ok (.lload 4, 2) := by decide +kernel
theorem dX4_unevenness_14 : decode cX4_unevenness 14 = .ok (.iload_n 1, 1) := by decide +kernel
theorem dX4_unevenness_15 : decode cX4_unevenness 15 = .ok (.i2l, 1) := by decide +kernel
theorem dX4_unevenness_16 : decode cX4_unevenness 16 = .ok (.aload_n 0, 1) := by decide +kernel
theorem dX4_unevenness_17 : decode cX4_unevenness 17 = .ok (.getfield 9, 3) := by decide +kernel
theorem dX4_unevenness_20 : decode cX4_unevenness 20 = .ok (.iload 6, 2) := by decide +kernel
theorem dX4_unevenness_22 : decode cX4_unevenness 22 = .ok (.laload, 1) := by decide +kernel
theorem dX4_unevenness_23 : decode cX4_unevenness 23 = .ok (.lmul, 1) := by decide +kernel
theorem dX4_unevenness_24 : decode cX4_unevenness 24 = .ok (.lload_n 2, 1) := by decide +kernel
theorem dX4_unevenness_25 : decode cX4_unevenness 25 = .ok (.lsub, 1) := by decide +kernel
theorem dX4_unevenness_26 : decode cX4_unevenness 26 = .ok (.invokestatic 28, 3) := by decide +kernel
theorem dX4_unevenness_29 : decode cX4_unevenness 29 = .ok (.ladd, 1) := by decide +kernel
theorem dX4_unevenness_30 : decode cX4_unevenness 30 = .ok (.lstore 4, 2) := by decide +kernel
theorem dX4_unevenness_32 : decode cX4_unevenness 32 = .ok (.iinc 6 1, 3) := by decide +kernel
theorem dX4_unevenness_35 : decode cX4_unevenness 35 = .ok (.goto (-29), 3) := by decide +kernel
theorem dX4_unevenness_38 : decode cX4_unevenness 38 = .ok (.lload 4, 2) := by decide +kernel
theorem dX4_unevenness_40 : decode cX4_unevenness 40 = .ok (.lreturn, 1) := by decide +kernel
theorem dX4_step_0 : decode cX4_step 0 = .ok (.iconst 0, 1) := by decide +kernel
theorem dX4_step_1 : decode cX4_step 1 = .ok (.istore_n 2, 1) := by decide +kernel
theorem dX4_step_2 : decode cX4_step 2 = .ok (.iload_n 2, 1) := by decide +kernel
theorem dX4_step_3 : decode cX4_step 3 = .ok (.aload_n 1, 1) := by decide +kernel
theorem dX4_step_4 : decode cX4_step 4 = .ok (.getfield 34, 3) := by decide +kernel
theorem dX4_step_7 : decode cX4_step 7 = .ok (.if_icmp .ge 56, 3) := by decide +kernel
theorem dX4_step_10 : decode cX4_step 10 = .ok (.aload_n 0, 1) := by decide +kernel
theorem dX4_step_11 : decode cX4_step 11 = .ok (.getfield 9, 3) := by decide +kernel
theorem dX4_step_14 : decode cX4_step 14 = .ok (.iload_n 2, 1) := by decide +kernel
theorem dX4_step_15 : decode cX4_step 15 = .ok (.lconst 0, 1) := by decide +kernel
theorem dX4_step_16 : decode cX4_step 16 = .ok (.lastore, 1) := by decide +kernel
theorem dX4_step_17 : decode cX4_step 17 = .ok (.iconst 0, 1) := by decide +kernel
theorem dX4_step_18 : decode cX4_step 18 = .ok (.istore_n 3, 1) := by decide +kernel
theorem dX4_step_19 : decode cX4_step 19 = .ok (.iload_n 3, 1) := by decide +kernel
theorem dX4_step_20 : decode cX4_step 20 = .ok (.aload_n 1, 1) := by decide +kernel
theorem dX4_step_21 : decode cX4_step 21 = .ok (.getfield 34, 3) := by decide +kernel
theorem dX4_step_24 : decode cX4_step 24 = .ok (.if_icmp .ge 33, 3) := by decide +kernel
theorem dX4_step_27 : decode cX4_step 27 = .ok (.aload_n 1, 1) := by decide +kernel
theorem dX4_step_28 : decode cX4_step 28 = .ok (.iload_n 3, 1) := by decide +kernel
theorem dX4_step_29 : decode cX4_step 29 = .ok (.iload_n 2, 1) := by decide +kernel
theorem dX4_step_30 : decode cX4_step 30 = .ok (.invokevirtual 40, 3) := by decide +kernel
theorem dX4_step_33 : decode cX4_step 33 = .ok (.ifCond .eq 18, 3) := by decide +kernel
theorem dX4_step_36 : decode cX4_step 36 = .ok (.aload_n 0, 1) := by decide +kernel
theorem dX4_step_37 : decode cX4_step 37 = .ok (.getfield 9, 3) := by decide +kernel
theorem dX4_step_40 : decode cX4_step 40 = .ok (.iload_n 2, 1) := by decide +kernel
theorem dX4_step_41 : decode cX4_step 41 = .ok (.dup2, 1) := by decide +kernel
theorem dX4_step_42 : decode cX4_step 42 = .ok (.laload, 1) := by decide +kernel
theorem dX4_step_43 : decode cX4_step 43 = .ok (.aload_n 0, 1) := by decide +kernel
theorem dX4_step_44 : decode cX4_step 44 = .ok (.getfield 15, 3) := by decide +kernel
theorem dX4_step_47 : decode cX4_step 47 = .ok (.iload_n 3, 1) := by decide +kernel
theorem dX4_step_48 : decode cX4_step 48 = .ok (.laload, 1) := by decide +kernel
theorem dX4_step_49 : decode cX4_step 49 = .ok (.ladd, 1) := by decide +kernel
theorem dX4_step_50 : decode cX4_step 50 = .ok (.lastore, 1) := by decide +kernel
theorem dX4_step_51 : decode cX4_step 51 = .ok (.iinc 3 1, 3) := by decide +kernel
theorem dX4_step_54 : decode cX4_step 54 = .ok (.goto (-35), 3) := by decide +kernel
theorem dX4_step_57 : decode cX4_step 57 = .ok (.iinc 2 1, 3) := by decide +kernel
theorem dX4_step_60 : decode cX4_step 60 = .ok (.goto (-58), 3) := by decide +kernel
theorem dX4_step_63 : decode cX4_step 63 = .ok (.return_, 1) := by decide +kernel
theorem dX5_init_0 : decode cX5_init 0 = .ok (.aload_n 0, 1) := by decide +kernel
theorem dX5_init_1 : decode cX5_init 1 = .ok (.invokespecial 3, 3) := by decide +kernel
theorem dX5_init_4 : decode cX5_init 4 = .ok (.aload_n 0, 1) := by decide +kernel
theorem dX5_init_5 : decode cX5_init 5 = .ok (.iconst 4, 1) := by decide +kernel
theorem dX5_init_6 : decode cX5_init 6 = .ok (.anewarray 9, 3) := by decide +kernel
theorem dX5_init_9 : decode cX5_init 9 = .ok (.putfield 11, 3) := by decide +kernel
theorem dX5_init_12 : decode cX5_init 12 = .ok (.aload_n 0, 1) := by decide +kernel
theorem dX5_init_13 : decode cX5_init 13 = .ok (.new 9, 3) := by decide +kernel
theorem dX5_init_16 : decode cX5_init 16 = .ok (.dup, 1) := by decide +kernel
theorem dX5_init_17 : decode cX5_init 17 = .ok (.invokespecial 15, 3) := by decide +kernel
theorem dX5_init_20 : decode cX5_init 20 = .ok (.putfield 16, 3) := by decide +kernel
theorem dX5_init_23 : decode cX5_init 23 = .ok (.aload_n 0, 1) := by decide +kernel
theorem dX5_init_24 : decode cX5_init 24 = .ok (.new 20, 3) := by decide +kernel
theorem dX5_init_27 : decode cX5_init 27 = .ok (.dup, 1) := by decide +kernel
theorem dX5_init_28 : decode cX5_init 28 = .ok (.invokespecial 22, 3) := by decide +kernel
theorem dX5_init_31 : decode cX5_init 31 = .ok (.putfield 23, 3) := by decide +kernel
theorem dX5_init_34 : decode cX5_init 34 = .ok (.aload_n 0, 1) := by decide +kernel
theorem dX5_init_35 : decode cX5_init 35 = .ok (.new 27, 3) := by decide +kernel
theorem dX5_init_38 : decode cX5_init 38 = .ok (.dup, 1) := by decide +kernel
theorem dX5_init_39 : decode cX5_init 39 = .ok (.invokespecial 29, 3) := by decide +kernel
theorem dX5_init_42 : decode cX5_init 42 = .ok (.putfield 30, 3) := by decide +kernel
theorem dX5_init_45 : decode cX5_init 45 = .ok (.aload_n 0, 1) := by decide +kernel
theorem dX5_init_46 : decode cX5_init 46 = .ok (.new 34, 3) := by decide +kernel
theorem dX5_init_49 : decode cX5_init 49 = .ok (.dup, 1) := by decide +kernel
theorem dX5_init_50 : decode cX5_init 50 = .ok (.invokespecial 36, 3) := by decide +kernel
theorem dX5_init_53 : decode cX5_init 53 = .ok (.putfield 37, 3) := by decide +kernel
theorem dX5_init_56 : decode cX5_init 56 = .ok (.aload_n 0, 1) := by decide +kernel
theorem dX5_init_57 : decode cX5_init 57 = .ok (.new 41, 3) := by decide +kernel
theorem dX5_init_60 : decode cX5_init 60 = .ok (.dup, 1) := by decide +kernel
theorem dX5_init_61 : decode cX5_init 61 = .ok (.invokespecial 43, 3) := by decide +kernel
theorem dX5_init_64 : decode cX5_init 64 = .ok (.putfield 44, 3) := by decide +kernel
theorem dX5_init_67 : decode cX5_init 67 = .ok (.iconst 0, 1) := by decide +kernel
theorem dX5_init_68 : decode cX5_init 68 = .ok (.istore_n 1, 1) := by decide +kernel
theorem dX5_init_69 : decode cX5_init 69 = .ok (.iload_n 1, 1) := by decide +kernel
theorem dX5_init_70 : decode cX5_init 70 = .ok (.iconst 4, 1) := by decide +kernel
theorem dX5_init_71 : decode cX5_init 71 = .ok (.if_icmp .ge 22, 3) := by decide +kernel
theorem dX5_init_74 : decode cX5_init 74 = .ok (.aload_n 0, 1) := by decide +kernel
theorem dX5_init_75 : decode cX5_init 75 = .ok (.getfield 11, 3) := by decide +kernel
theorem dX5_init_78 : decode cX5_init 78 = .ok (.iload_n 1, 1) := by decide +kernel
theorem dX5_init_79 : decode cX5_init 79 = .ok (.new 9, 3) := by decide +kernel
theorem dX5_init_82 : decode cX5_init 82 = .ok (.dup, 1) := by decide +kernel
theorem dX5_init_83 : decode cX5_init 83 = .ok (.invokespecial 15, 3) := by decide +kernel
theorem dX5_init_86 : decode cX5_init 86 = .ok (.aastore, 1) := by decide +kernel
theorem dX5_init_87 : decode cX5_init 87 = .ok (.iinc 1 1, 3) := by decide +kernel
theorem dX5_init_90 : decode cX5_init 90 = .ok (.goto (-21), 3) := by decide +kernel
theorem dX5_init_93 : decode cX5_init 93 = .ok (.return_, 1) := by decide +kernel
theorem dX5_net_0 : decode cX5_net 0 = .ok (.aload_n 0, 1) := by decide +kernel
theorem dX5_net_1 : decode cX5_net 1 = .ok (.iload_n 1, 1) := by decide +kernel
theorem dX5_net_2 : decode cX5_net 2 = .ok (.invokevirtual 48, 3) := by decide +kernel
theorem dX5_net_5 : decode cX5_net 5 = .ok (.astore_n 3, 1) := by decide +kernel
theorem dX5_net_6 : decode cX5_net 6 = .ok (.aload_n 3, 1) := by decide +kernel
theorem dX5_net_7 : decode cX5_net 7 = .ok (.ifnull 10, 3) := by decide +kernel
theorem dX5_net_10 : decode cX5_net 10 = .ok (.iload_n 2, 1) := by decide +kernel
theorem dX5_net_11 : decode cX5_net 11 = .ok (.invokestatic 52, 3) := by decide +kernel
theorem dX5_net_14 : decode cX5_net 14 = .ok (.ifCond .ne 6, 3) := by decide +kernel
theorem dX5_net_17 : decode cX5_net 17 = .ok (.bipush (-2), 2) := by decide +kernel
theorem dX5_net_19 : decode cX5_net 19 = .ok (.ireturn, 1) := by decide +kernel
theorem dX5_net_20 : decode cX5_net 20 = .ok (.aload_n 3, 1) := by decide +kernel
theorem dX5_net_21 : decode cX5_net 21 = .ok (.iload_n 2, 1) := by decide +kernel
theorem dX5_net_22 : decode cX5_net 22 = .ok (.invokevirtual 56, 3) := by decide +kernel
theorem dX5_net_25 : decode cX5_net 25 = .ok (.iconst 1, 1) := by decide +kernel
theorem dX5_net_26 : decode cX5_net 26 = .ok (.ireturn, 1) := by decide +kernel
theorem dX5_line_0 : decode cX5_line 0 = .ok (.aload_n 0, 1) := by decide +kernel
theorem dX5_line_1 : decode cX5_line 1 = .ok (.iload_n 1, 1) := by decide +kernel
theorem dX5_line_2 : decode cX5_line 2 = .ok (.invokevirtual 48, 3) := by decide +kernel
theorem dX5_line_5 : decode cX5_line 5 = .ok (.astore 5, 2) := by decide +kernel
theorem dX5_line_7 : decode cX5_line 7 = .ok (.aload 5, 2) := by decide +kernel
theorem dX5_line_9 : decode cX5_line 9 = .ok (.ifnull 13, 3) := by decide +kernel
theorem dX5_line_12 : decode cX5_line 12 = .ok (.aload 5, 2) := by decide +kernel
theorem dX5_line_14 : decode cX5_line 14 = .ok (.iload_n 2, 1) := by decide +kernel
theorem dX5_line_15 : decode cX5_line 15 = .ok (.iload_n 3, 1) := by decide +kernel
theorem dX5_line_16 : decode cX5_line 16 = .ok (.invokevirtual 60, 3) := by decide +kernel
theorem dX5_line_19 : decode cX5_line 19 = .ok (.ifCond .ne 6, 3) := by decide +kernel
theorem dX5_line_22 : decode cX5_line 22 = .ok (.bipush (-2), 2) := by decide +kernel
theorem dX5_line_24 : decode cX5_line 24 = .ok (.ireturn, 1) := by decide +kernel
theorem dX5_line_25 : decode cX5_line 25 = .ok (.aload 5, 2) := by decide +kernel
theorem dX5_line_27 : decode cX5_line 27 = .ok (.iload_n 2, 1) := by decide +kernel
theorem dX5_line_28 : decode cX5_line 28 = .ok (.iload_n 3, 1) := by decide +kernel
theorem dX5_line_29 : decode cX5_line 29 = .ok (.invokevirtual 64, 3) := by decide +kernel
theorem dX5_line_32 : decode cX5_line 32 = .ok (.iload 4, 2) := by decide +kernel
theorem dX5_line_34 : decode cX5_line 34 = .ok (.if_icmp .ne 6, 3) := by decide +kernel
theorem dX5_line_37 : decode cX5_line 37 = .ok (.bipush (-3), 2) := by decide +kernel
theorem dX5_line_39 : decode cX5_line 39 = .ok (.ireturn, 1) := by decide +kernel
theorem dX5_line_40 : decode cX5_line 40 = .ok (.aload 5, 2) := by decide +kernel
theorem dX5_line_42 : decode cX5_line 42 = .ok (.iload_n 2, 1) := by decide +kernel
theorem dX5_line_43 : decode cX5_line 43 = .ok (.iload_n 3, 1) := by decide +kernel
theorem dX5_line_44 : decode cX5_line 44 = .ok (.invokevirtual 67, 3) := by decide +kernel
theorem dX5_line_47 : decode cX5_line 47 = .ok (.iconst 1, 1) := by decide +kernel
theorem dX5_line_48 : decode cX5_line 48 = .ok (.ireturn, 1) := by decide +kernel
theorem dX5_ring_0 : decode cX5_ring 0 = .ok (.aload_n 0, 1) := by decide +kernel
theorem dX5_ring_1 : decode cX5_ring 1 = .ok (.iload_n 1, 1) := by decide +kernel
theorem dX5_ring_2 : decode cX5_ring 2 = .ok (.invokevirtual 48, 3) := by decide +kernel
theorem dX5_ring_5 : decode cX5_ring 5 = .ok (.astore 4, 2) := by decide +kernel
theorem dX5_ring_7 : decode cX5_ring 7 = .ok (.aload 4, 2) := by decide +kernel
theorem dX5_ring_9 : decode cX5_ring 9 = .ok (.ifnull 22, 3) := by decide +kernel
theorem dX5_ring_12 : decode cX5_ring 12 = .ok (.iload_n 2, 1) := by decide +kernel
theorem dX5_ring_13 : decode cX5_ring 13 = .ok (.invokestatic 52, 3) := by decide +kernel
theorem dX5_ring_16 : decode cX5_ring 16 = .ok (.ifCond .eq 15, 3) := by decide +kernel
theorem dX5_ring_19 : decode cX5_ring 19 = .ok (.iload_n 3, 1) := by decide +kernel
theorem dX5_ring_20 : decode cX5_ring 20 = .ok (.ifCond .lt 11, 3) := by decide +kernel
theorem dX5_ring_23 : decode cX5_ring 23 = .ok (.iload_n 3, 1) := by decide +kernel
theorem dX5_ring_24 : decode cX5_ring 24 = .ok (.iload_n 2, 1) := by decide +kernel
theorem dX5_ring_25 : decode cX5_ring 25 = .ok (.iconst 2, 1) := by decide +kernel
theorem dX5_ring_26 : decode cX5_ring 26 = .ok (.idiv, 1) := by decide +kernel
theorem dX5_ring_27 : decode cX5_ring 27 = .ok (.ishr, 1) := by decide +kernel
theorem dX5_ring_28 : decode cX5_ring 28 = .ok (.ifCond .eq 6, 3) := by decide +kernel
theorem dX5_ring_31 : decode cX5_ring 31 = .ok (.bipush (-2), 2) := by decide +kernel
theorem dX5_ring_33 : decode cX5_ring 33 = .ok (.ireturn, 1) := by decide +kernel
theorem dX5_ring_34 : decode cX5_ring 34 = .ok (.aload 4, 2) := by decide +kernel
theorem dX5_ring_36 : decode cX5_ring 36 = .ok (.iload_n 2, 1) := by decide +kernel
theorem dX5_ring_37 : decode cX5_ring 37 = .ok (.iload_n 3, 1) := by decide +kernel
theorem dX5_ring_38 : decode cX5_ring 38 = .ok (.invokevirtual 71, 3) := by decide +kernel
theorem dX5_ring_41 : decode cX5_ring 41 = .ok (.aload 4, 2) := by decide +kernel
theorem dX5_ring_43 : decode cX5_ring 43 = .ok (.invokevirtual 74, 3) := by decide +kernel
theorem dX5_ring_46 : decode cX5_ring 46 = .ok (.ireturn, 1) := by decide +kernel
theorem dX5_product_0 : decode cX5_product 0 = .ok (.aload_n 0, 1) := by decide +kernel
theorem dX5_product_1 : decode cX5_product 1 = .ok (.iload_n 1, 1) := by decide +kernel
theorem dX5_product_2 : decode cX5_product 2 = .ok (.invokevirtual 48, 3) := by decide +kernel
theorem dX5_product_5 : decode cX5_product 5 = .ok (.astore 4, 2) := by decide +kernel
theorem dX5_product_7 : decode cX5_product 7 = .ok (.aload_n 0, 1) := by decide +kernel
theorem dX5_product_8 : decode cX5_product 8 = .ok (.iload_n 2, 1) := by decide +kernel
theorem dX5_product_9 : decode cX5_product 9 = .ok (.invokevirtual 48, 3) := by decide +kernel
theorem dX5_product_12 : decode cX5_product 12 = .ok (.astore 5, 2) := by decide +kernel
theorem dX5_product_14 : decode cX5_product 14 = .ok (.aload_n 0, 1) := by decide +kernel
theorem dX5_product_15 : decode cX5_product 15 = .ok (.iload_n 3, 1) := by decide +kernel
theorem dX5_product_16 : decode cX5_product 16 = .ok (.invokevirtual 48, 3) := by decide +kernel
theorem dX5_product_19 : decode cX5_product 19 = .ok (.astore 6, 2) := by decide +kernel
theorem dX5_product_21 : decode cX5_product 21 = .ok (.aload 4, 2) := by decide +kernel
theorem dX5_product_23 : decode cX5_product 23 = .ok (.ifnull 13, 3) := by decide +kernel
theorem dX5_product_26 : decode cX5_product 26 = .ok (.aload 5, 2) := by decide +kernel
theorem dX5_product_28 : decode cX5_product 28 = .ok (.ifnull 8, 3) := by decide +kernel
theorem dX5_product_31 : decode cX5_product 31 = .ok (.aload 6, 2) := by decide +kernel
theorem dX5_product_33 : decode cX5_product 33 = .ok (.ifnonnull 6, 3) := by decide +kernel
theorem dX5_product_36 : decode cX5_product 36 = .ok (.bipush (-2), 2) := by decide +kernel
theorem dX5_product_38 : decode cX5_product 38 = .ok (.ireturn, 1) := by decide +kernel
theorem dX5_product_39 : decode cX5_product 39 = .ok (.aload 4, 2) := by decide +kernel
theorem dX5_product_41 : decode cX5_product 41 = .ok (.getfield 78, 3) := by decide +kernel
theorem dX5_product_44 : decode cX5_product 44 = .ok (.aload 5, 2) := by decide +kernel
theorem dX5_product_46 : decode cX5_product 46 = .ok (.getfield 78, 3) := by decide +kernel
theorem dX5_product_49 : decode cX5_product 49 = .ok (.imul, 1) := by decide +kernel
theorem dX5_product_50 : decode cX5_product 50 = .ok (.bipush 10, 2) := by decide +kernel
theorem dX5_product_52 : decode cX5_product 52 = .ok (.if_icmp .le 6, 3) := by decide +kernel
theorem dX5_product_55 : decode cX5_product 55 = .ok (.bipush (-3), 2) := by decide +kernel
theorem dX5_product_57 : decode cX5_product 57 = .ok (.ireturn, 1) := by decide +kernel
theorem dX5_product_58 : decode cX5_product 58 = .ok (.aload_n 0, 1) := by decide +kernel
theorem dX5_product_59 : decode cX5_product 59 = .ok (.getfield 16, 3) := by decide +kernel
theorem dX5_product_62 : decode cX5_product 62 = .ok (.aload 4, 2) := by decide +kernel
theorem dX5_product_64 : decode cX5_product 64 = .ok (.aload 5, 2) := by decide +kernel
theorem dX5_product_66 : decode cX5_product 66 = .ok (.invokevirtual 82, 3) := by decide +kernel
theorem dX5_product_69 : decode cX5_product 69 = .ok (.aload 6, 2) := by decide +kernel
theorem dX5_product_71 : decode cX5_product 71 = .ok (.aload_n 0, 1) := by decide +kernel
theorem dX5_product_72 : decode cX5_product 72 = .ok (.getfield 16, 3) := by decide +kernel
theorem dX5_product_75 : decode cX5_product 75 = .ok (.invokevirtual 86, 3) := by decide +kernel
theorem dX5_product_78 : decode cX5_product 78 = .ok (.aload 6, 2) := by decide +kernel
theorem dX5_product_80 : decode cX5_product 80 = .ok (.getfield 78, 3) := by decide +kernel
theorem dX5_product_83 : decode cX5_product 83 = .ok (.ireturn, 1) := by decide +kernel
theorem dX5_turned_0 : decode cX5_turned 0 = .ok (.aload_n 0, 1) := by decide +kernel
theorem dX5_turned_1 : decode cX5_turned 1 = .ok (.iload_n 1, 1) := by decide +kernel
theorem dX5_turned_2 : decode cX5_turned 2 = .ok (.invokevirtual 48, 3) := by decide +kernel
theorem dX5_turned_5 : decode cX5_turned 5 = .ok (.astore_n 3, 1) := by decide +kernel
theorem dX5_turned_6 : decode cX5_turned 6 = .ok (.aload_n 0, 1) := by decide +kernel
theorem dX5_turned_7 : decode cX5_turned 7 = .ok (.iload_n 2, 1) := by decide +kernel
theorem dX5_turned_8 : decode cX5_turned 8 = .ok (.invokevirtual 48, 3) := by decide +kernel
theorem dX5_turned_11 : decode cX5_turned 11 = .ok (.astore 4, 2) := by decide +kernel
theorem dX5_turned_13 : decode cX5_turned 13 = .ok (.aload_n 3, 1) := by decide +kernel
theorem dX5_turned_14 : decode cX5_turned 14 = .ok (.ifnull 8, 3) := by decide +kernel
theorem dX5_turned_17 : decode cX5_turned 17 = .ok (.aload 4, 2) := by decide +kernel
theorem dX5_turned_19 : decode cX5_turned 19 = .ok (.ifnonnull 6, 3) := by decide +kernel
theorem dX5_turned_22 : decode cX5_turned 22 = .ok (.bipush (-2), 2) := by decide +kernel
theorem dX5_turned_24 : decode cX5_turned 24 = .ok (.ireturn, 1) := by decide +kernel
theorem dX5_turned_25 : decode cX5_turned 25 = .ok (.aload_n 0, 1) := by decide +kernel
theorem dX5_turned_26 : decode cX5_turned 26 = .ok (.getfield 16, 3) := by decide +kernel
theorem dX5_turned_29 : decode cX5_turned 29 = .ok (.aload_n 3, 1) := by decide +kernel
theorem dX5_turned_30 : decode cX5_turned 30 = .ok (.invokevirtual 90, 3) := by decide +kernel
theorem dX5_turned_33 : decode cX5_turned 33 = .ok (.aload 4, 2) := by decide +kernel
theorem dX5_turned_35 : decode cX5_turned 35 = .ok (.aload_n 0, 1) := by decide +kernel
theorem dX5_turned_36 : decode cX5_turned 36 = .ok (.getfield 16, 3) := by decide +kernel
theorem dX5_turned_39 : decode cX5_turned 39 = .ok (.invokevirtual 86, 3) := by decide +kernel
theorem dX5_turned_42 : decode cX5_turned 42 = .ok (.aload 4, 2) := by decide +kernel
theorem dX5_turned_44 : decode cX5_turned 44 = .ok (.invokevirtual 74, 3) := by decide +kernel
theorem dX5_turned_47 : decode cX5_turned 47 = .ok (.ireturn, 1) := by decide +kernel
theorem dX5_about_0 : decode cX5_about 0 = .ok (.aload_n 0, 1) := by decide +kernel
theorem dX5_about_1 : decode cX5_about 1 = .ok (.iload_n 1, 1) := by decide +kernel
theorem dX5_about_2 : decode cX5_about 2 = .ok (.invokevirtual 48, 3) := by decide +kernel
theorem dX5_about_5 : decode cX5_about 5 = .ok (.astore_n 3, 1) := by decide +kernel
theorem dX5_about_6 : decode cX5_about 6 = .ok (.aload_n 3, 1) := by decide +kernel
theorem dX5_about_7 : decode cX5_about 7 = .ok (.ifnonnull 6, 3) := by decide +kernel
theorem dX5_about_10 : decode cX5_about 10 = .ok (.bipush (-2), 2) := by decide +kernel
theorem dX5_about_12 : decode cX5_about 12 = .ok (.ireturn, 1) := by decide +kernel
theorem dX5_about_13 : decode cX5_about 13 = .ok (.iload_n 2, 1) := by decide +kernel
theorem dX5_about_14 : decode cX5_about 14 = .ok (.tableswitch 50 0 3 #[30, 35, 40, 45], 30) := by decide +kernel
theorem dX5_about_44 : decode cX5_about 44 = .ok (.aload_n 3, 1) := by decide +kernel
theorem dX5_about_45 : decode cX5_about 45 = .ok (.getfield 78, 3) := by decide +kernel
theorem dX5_about_48 : decode cX5_about 48 = .ok (.ireturn, 1) := by decide +kernel
theorem dX5_about_49 : decode cX5_about 49 = .ok (.aload_n 3, 1) := by decide +kernel
theorem dX5_about_50 : decode cX5_about 50 = .ok (.invokevirtual 74, 3) := by decide +kernel
theorem dX5_about_53 : decode cX5_about 53 = .ok (.ireturn, 1) := by decide +kernel
theorem dX5_about_54 : decode cX5_about 54 = .ok (.aload_n 3, 1) := by decide +kernel
theorem dX5_about_55 : decode cX5_about 55 = .ok (.invokevirtual 93, 3) := by decide +kernel
theorem dX5_about_58 : decode cX5_about 58 = .ok (.ireturn, 1) := by decide +kernel
theorem dX5_about_59 : decode cX5_about 59 = .ok (.aload_n 3, 1) := by decide +kernel
theorem dX5_about_60 : decode cX5_about 60 = .ok (.invokevirtual 96, 3) := by decide +kernel
theorem dX5_about_63 : decode cX5_about 63 = .ok (.ireturn, 1) := by decide +kernel
theorem dX5_about_64 : decode cX5_about 64 = .ok (.bipush (-2), 2) := by decide +kernel
theorem dX5_about_66 : decode cX5_about 66 = .ok (.ireturn, 1) := by decide +kernel
theorem dX5_near_0 : decode cX5_near 0 = .ok (.aload_n 0, 1) := by decide +kernel
theorem dX5_near_1 : decode cX5_near 1 = .ok (.iload_n 1, 1) := by decide +kernel
theorem dX5_near_2 : decode cX5_near 2 = .ok (.invokevirtual 48, 3) := by decide +kernel
theorem dX5_near_5 : decode cX5_near 5 = .ok (.astore_n 3, 1) := by decide +kernel
theorem dX5_near_6 : decode cX5_near 6 = .ok (.aload_n 3, 1) := by decide +kernel
theorem dX5_near_7 : decode cX5_near 7 = .ok (.ifnull 11, 3) := by decide +kernel
theorem dX5_near_10 : decode cX5_near 10 = .ok (.aload_n 3, 1) := by decide +kernel
theorem dX5_near_11 : decode cX5_near 11 = .ok (.iload_n 2, 1) := by decide +kernel
theorem dX5_near_12 : decode cX5_near 12 = .ok (.invokevirtual 99, 3) := by decide +kernel
theorem dX5_near_15 : decode cX5_near 15 = .ok (.ifCond .ne 6, 3) := by decide +kernel
theorem dX5_near_18 : decode cX5_near 18 = .ok (.bipush (-2), 2) := by decide +kernel
theorem dX5_near_20 : decode cX5_near 20 = .ok (.ireturn, 1) := by decide +kernel
theorem dX5_near_21 : decode cX5_near 21 = .ok (.aload_n 3, 1) := by decide +kernel
theorem dX5_near_22 : decode cX5_near 22 = .ok (.getfield 102, 3) := by decide +kernel
theorem dX5_near_25 : decode cX5_near 25 = .ok (.iload_n 2, 1) := by decide +kernel
theorem dX5_near_26 : decode cX5_near 26 = .ok (.iaload, 1) := by decide +kernel
theorem dX5_near_27 : decode cX5_near 27 = .ok (.ireturn, 1) := by decide +kernel
theorem dX5_number_0 : decode cX5_number 0 = .ok (.aload_n 0, 1) := by decide +kernel
theorem dX5_number_1 : decode cX5_number 1 = .ok (.iload_n 1, 1) := by decide +kernel
theorem dX5_number_2 : decode cX5_number 2 = .ok (.invokevirtual 48, 3) := by decide +kernel
theorem dX5_number_5 : decode cX5_number 5 = .ok (.astore 4, 2) := by decide +kernel
theorem dX5_number_7 : decode cX5_number 7 = .ok (.aload 4, 2) := by decide +kernel
theorem dX5_number_9 : decode cX5_number 9 = .ok (.ifnull 13, 3) := by decide +kernel
theorem dX5_number_12 : decode cX5_number 12 = .ok (.aload 4, 2) := by decide +kernel
theorem dX5_number_14 : decode cX5_number 14 = .ok (.iload_n 2, 1) := by decide +kernel
theorem dX5_number_15 : decode cX5_number 15 = .ok (.iload_n 3, 1) := by decide +kernel
theorem dX5_number_16 : decode cX5_number 16 = .ok (.invokevirtual 60, 3) := by decide +kernel
theorem dX5_number_19 : decode cX5_number 19 = .ok (.ifCond .ne 6, 3) := by decide +kernel
theorem dX5_number_22 : decode cX5_number 22 = .ok (.bipush (-2), 2) := by decide +kernel
theorem dX5_number_24 : decode cX5_number 24 = .ok (.ireturn, 1) := by decide +kernel
theorem dX5_number_25 : decode cX5_number 25 = .ok (.aload 4, 2) := by decide +kernel
theorem dX5_number_27 : decode cX5_number 27 = .ok (.iload_n 2, 1) := by decide +kernel
theorem dX5_number_28 : decode cX5_number 28 = .ok (.iload_n 3, 1) := by decide +kernel
theorem dX5_number_29 : decode cX5_number 29 = .ok (.invokevirtual 64, 3) := by decide +kernel
theorem dX5_number_32 : decode cX5_number 32 = .ok (.ifCond .eq 21, 3) := by decide +kernel
theorem dX5_number_35 : decode cX5_number 35 = .ok (.aload 4, 2) := by decide +kernel
theorem dX5_number_37 : decode cX5_number 37 = .ok (.iload_n 2, 1) := by decide +kernel
theorem dX5_number_38 : decode cX5_number 38 = .ok (.iload_n 3, 1) := by decide +kernel
theorem dX5_number_39 : decode cX5_number 39 = .ok (.invokestatic 106, 3) := by decide +kernel
theorem dX5_number_42 : decode cX5_number 42 = .ok (.iload_n 2, 1) := by decide +kernel
theorem dX5_number_43 : decode cX5_number 43 = .ok (.iload_n 3, 1) := by decide +kernel
theorem dX5_number_44 : decode cX5_number 44 = .ok (.invokestatic 112, 3) := by decide +kernel
theorem dX5_number_47 : decode cX5_number 47 = .ok (.invokevirtual 115, 3) := by decide +kernel
theorem dX5_number_50 : decode cX5_number 50 = .ok (.goto 4, 3) := by decide +kernel
theorem dX5_number_53 : decode cX5_number 53 = .ok (.iconst (-1), 1) := by decide +kernel
theorem dX5_number_54 : decode cX5_number 54 = .ok (.ireturn, 1) := by decide +kernel
theorem dX5_growth_0 : decode cX5_growth 0 = .ok (.aload_n 0, 1) := by decide +kernel
theorem dX5_growth_1 : decode cX5_growth 1 = .ok (.iload_n 1, 1) := by decide +kernel
theorem dX5_growth_2 : decode cX5_growth 2 = .ok (.invokevirtual 48, 3) := by decide +kernel
theorem dX5_growth_5 : decode cX5_growth 5 = .ok (.astore 4, 2) := by decide +kernel
theorem dX5_growth_7 : decode cX5_growth 7 = .ok (.aload 4, 2) := by decide +kernel
theorem dX5_growth_9 : decode cX5_growth 9 = .ok (.ifnull 12, 3) := by decide +kernel
theorem dX5_growth_12 : decode cX5_growth 12 = .ok (.iload_n 3, 1) := by decide +kernel
theorem dX5_growth_13 : decode cX5_growth 13 = .ok (.ifCond .lt 8, 3) := by decide +kernel
theorem dX5_growth_16 : decode cX5_growth 16 = .ok (.iload_n 3, 1) := by decide +kernel
theorem dX5_growth_17 : decode cX5_growth 17 = .ok (.iconst 2, 1) := by decide +kernel
theorem dX5_growth_18 : decode cX5_growth 18 = .ok (.if_icmp .le 6, 3) := by decide +kernel
theorem dX5_growth_21 : decode cX5_growth 21 = .ok (.bipush (-2), 2) := by decide +kernel
theorem dX5_growth_23 : decode cX5_growth 23 = .ok (.ireturn, 1) := by decide +kernel
theorem dX5_growth_24 : decode cX5_growth 24 = .ok (.aload 4, 2) := by decide +kernel
theorem dX5_growth_26 : decode cX5_growth 26 = .ok (.getfield 78, 3) := by decide +kernel
theorem dX5_growth_29 : decode cX5_growth 29 = .ok (.iconst 1, 1) := by decide +kernel
theorem dX5_growth_30 : decode cX5_growth 30 = .ok (.if_icmp .ne 5, 3) := by decide +kernel
theorem dX5_growth_33 : decode cX5_growth 33 = .ok (.iconst (-1), 1) := by decide +kernel
theorem dX5_growth_34 : decode cX5_growth 34 = .ok (.ireturn, 1) := by decide +kernel
theorem dX5_growth_35 : decode cX5_growth 35 = .ok (.aload_n 0, 1) := by decide +kernel
theorem dX5_growth_36 : decode cX5_growth 36 = .ok (.getfield 23, 3) := by decide +kernel
theorem dX5_growth_39 : decode cX5_growth 39 = .ok (.aload 4, 2) := by decide +kernel
theorem dX5_growth_41 : decode cX5_growth 41 = .ok (.iload_n 2, 1) := by decide +kernel
theorem dX5_growth_42 : decode cX5_growth 42 = .ok (.invokevirtual 118, 3) := by decide +kernel
theorem dX5_growth_45 : decode cX5_growth 45 = .ok (.iload_n 3, 1) := by decide +kernel
theorem dX5_growth_46 : decode cX5_growth 46 = .ok (.lookupswitch 42 #[(0, 26), (1, 34)], 26) := by decide +kernel
theorem dX5_growth_72 : decode cX5_growth 72 = .ok (.aload_n 0, 1) := by decide +kernel
theorem dX5_growth_73 : decode cX5_growth 73 = .ok (.getfield 23, 3) := by decide +kernel
theorem dX5_growth_76 : decode cX5_growth 76 = .ok (.getfield 122, 3) := by decide +kernel
theorem dX5_growth_79 : decode cX5_growth 79 = .ok (.ireturn, 1) := by decide +kernel
theorem dX5_growth_80 : decode cX5_growth 80 = .ok (.aload_n 0, 1) := by decide +kernel
theorem dX5_growth_81 : decode cX5_growth 81 = .ok (.getfield 23, 3) := by decide +kernel
theorem dX5_growth_84 : decode cX5_growth 84 = .ok (.getfield 125, 3) := by decide +kernel
theorem dX5_growth_87 : decode cX5_growth 87 = .ok (.ireturn, 1) := by decide +kernel
theorem dX5_growth_88 : decode cX5_growth 88 = .ok (.aload_n 0, 1) := by decide +kernel
theorem dX5_growth_89 : decode cX5_growth 89 = .ok (.getfield 23, 3) := by decide +kernel
theorem dX5_growth_92 : decode cX5_growth 92 = .ok (.getfield 128, 3) := by decide +kernel
theorem dX5_growth_95 : decode cX5_growth 95 = .ok (.ireturn, 1) := by decide +kernel
theorem dX5_more_0 : decode cX5_more 0 = .ok (.aload_n 0, 1) := by decide +kernel
theorem dX5_more_1 : decode cX5_more 1 = .ok (.iload_n 1, 1) := by decide +kernel
theorem dX5_more_2 : decode cX5_more 2 = .ok (.invokevirtual 48, 3) := by decide +kernel
theorem dX5_more_5 : decode cX5_more 5 = .ok (.astore 4, 2) := by decide +kernel
theorem dX5_more_7 : decode cX5_more 7 = .ok (.aload 4, 2) := by decide +kernel
theorem dX5_more_9 : decode cX5_more 9 = .ok (.ifnull 14, 3) := by decide +kernel
theorem dX5_more_12 : decode cX5_more 12 = .ok (.iload_n 2, 1) := by decide +kernel
theorem dX5_more_13 : decode cX5_more 13 = .ok (.ifCond .lt 10, 3) := by decide +kernel
theorem dX5_more_16 : decode cX5_more 16 = .ok (.iload_n 3, 1) := by decide +kernel
theorem dX5_more_17 : decode cX5_more 17 = .ok (.invokestatic 131, 3) := by decide +kernel
theorem dX5_more_20 : decode cX5_more 20 = .ok (.ifCond .ne 6, 3) := by decide +kernel
theorem dX5_more_23 : decode cX5_more 23 = .ok (.bipush (-2), 2) := by decide +kernel
theorem dX5_more_25 : decode cX5_more 25 = .ok (.ireturn, 1) := by decide +kernel
theorem dX5_more_26 : decode cX5_more 26 = .ok (.aload_n 0, 1) := by decide +kernel
theorem dX5_more_27 : decode cX5_more 27 = .ok (.getfield 30, 3) := by decide +kernel
theorem dX5_more_30 : decode cX5_more 30 = .ok (.aload 4, 2) := by decide +kernel
theorem dX5_more_32 : decode cX5_more 32 = .ok (.iload_n 2, 1) := by decide +kernel
theorem dX5_more_33 : decode cX5_more 33 = .ok (.invokevirtual 134, 3) := by decide +kernel
theorem dX5_more_36 : decode cX5_more 36 = .ok (.aload_n 0, 1) := by decide +kernel
theorem dX5_more_37 : decode cX5_more 37 = .ok (.getfield 30, 3) := by decide +kernel
theorem dX5_more_40 : decode cX5_more 40 = .ok (.iload_n 3, 1) := by decide +kernel
theorem dX5_more_41 : decode cX5_more 41 = .ok (.invokevirtual 138, 3) := by decide +kernel
theorem dX5_more_44 : decode cX5_more 44 = .ok (.ireturn, 1) := by decide +kernel
theorem dX5_just_0 : decode cX5_just 0 = .ok (.aload_n 0, 1) := by decide +kernel
theorem dX5_just_1 : decode cX5_just 1 = .ok (.iload_n 1, 1) := by decide +kernel
theorem dX5_just_2 : decode cX5_just 2 = .ok (.invokevirtual 48, 3) := by decide +kernel
theorem dX5_just_5 : decode cX5_just 5 = .ok (.astore 4, 2) := by decide +kernel
theorem dX5_just_7 : decode cX5_just 7 = .ok (.aload 4, 2) := by decide +kernel
theorem dX5_just_9 : decode cX5_just 9 = .ok (.ifnull 14, 3) := by decide +kernel
theorem dX5_just_12 : decode cX5_just 12 = .ok (.iload_n 2, 1) := by decide +kernel
theorem dX5_just_13 : decode cX5_just 13 = .ok (.ifCond .lt 10, 3) := by decide +kernel
theorem dX5_just_16 : decode cX5_just 16 = .ok (.iload_n 3, 1) := by decide +kernel
theorem dX5_just_17 : decode cX5_just 17 = .ok (.invokestatic 131, 3) := by decide +kernel
theorem dX5_just_20 : decode cX5_just 20 = .ok (.ifCond .ne 6, 3) := by decide +kernel
theorem dX5_just_23 : decode cX5_just 23 = .ok (.bipush (-2), 2) := by decide +kernel
theorem dX5_just_25 : decode cX5_just 25 = .ok (.ireturn, 1) := by decide +kernel
theorem dX5_just_26 : decode cX5_just 26 = .ok (.aload_n 0, 1) := by decide +kernel
theorem dX5_just_27 : decode cX5_just 27 = .ok (.getfield 30, 3) := by decide +kernel
theorem dX5_just_30 : decode cX5_just 30 = .ok (.aload 4, 2) := by decide +kernel
theorem dX5_just_32 : decode cX5_just 32 = .ok (.iload_n 2, 1) := by decide +kernel
theorem dX5_just_33 : decode cX5_just 33 = .ok (.invokevirtual 134, 3) := by decide +kernel
theorem dX5_just_36 : decode cX5_just 36 = .ok (.aload_n 0, 1) := by decide +kernel
theorem dX5_just_37 : decode cX5_just 37 = .ok (.getfield 30, 3) := by decide +kernel
theorem dX5_just_40 : decode cX5_just 40 = .ok (.iload_n 3, 1) := by decide +kernel
theorem dX5_just_41 : decode cX5_just 41 = .ok (.invokevirtual 142, 3) := by decide +kernel
theorem dX5_just_44 : decode cX5_just 44 = .ok (.ireturn, 1) := by decide +kernel
theorem dX5_second_0 : decode cX5_second 0 = .ok (.aload_n 0, 1) := by decide +kernel
theorem dX5_second_1 : decode cX5_second 1 = .ok (.iload_n 1, 1) := by decide +kernel
theorem dX5_second_2 : decode cX5_second 2 = .ok (.invokevirtual 48, 3) := by decide +kernel
theorem dX5_second_5 : decode cX5_second 5 = .ok (.astore_n 2, 1) := by decide +kernel
theorem dX5_second_6 : decode cX5_second 6 = .ok (.aload_n 2, 1) := by decide +kernel
theorem dX5_second_7 : decode cX5_second 7 = .ok (.ifnonnull 6, 3) := by decide +kernel
theorem dX5_second_10 : decode cX5_second 10 = .ok (.bipush (-2), 2) := by decide +kernel
theorem dX5_second_12 : decode cX5_second 12 = .ok (.ireturn, 1) := by decide +kernel
theorem dX5_second_13 : decode cX5_second 13 = .ok (.aload_n 0, 1) := by decide +kernel
theorem dX5_second_14 : decode cX5_second 14 = .ok (.getfield 30, 3) := by decide +kernel
theorem dX5_second_17 : decode cX5_second 17 = .ok (.aload_n 2, 1) := by decide +kernel
theorem dX5_second_18 : decode cX5_second 18 = .ok (.iconst 0, 1) := by decide +kernel
theorem dX5_second_19 : decode cX5_second 19 = .ok (.invokevirtual 134, 3) := by decide +kernel
theorem dX5_second_22 : decode cX5_second 22 = .ok (.bipush (-20), 2) := by decide +kernel
theorem dX5_second_24 : decode cX5_second 24 = .ok (.istore_n 3, 1) := by decide +kernel
theorem dX5_second_25 : decode cX5_second 25 = .ok (.iload_n 3, 1) := by decide +kernel
theorem dX5_second_26 : decode cX5_second 26 = .ok (.bipush 18, 2) := by decide +kernel
theorem dX5_second_28 : decode cX5_second 28 = .ok (.if_icmp .ge 23, 3) := by decide +kernel
theorem dX5_second_31 : decode cX5_second 31 = .ok (.aload_n 0, 1) := by decide +kernel
theorem dX5_second_32 : decode cX5_second 32 = .ok (.getfield 30, 3) := by decide +kernel
theorem dX5_second_35 : decode cX5_second 35 = .ok (.iload_n 3, 1) := by decide +kernel
theorem dX5_second_36 : decode cX5_second 36 = .ok (.invokevirtual 138, 3) := by decide +kernel
theorem dX5_second_39 : decode cX5_second 39 = .ok (.iconst 1, 1) := by decide +kernel
theorem dX5_second_40 : decode cX5_second 40 = .ok (.if_icmp .gt 5, 3) := by decide +kernel
theorem dX5_second_43 : decode cX5_second 43 = .ok (.iload_n 3, 1) := by decide +kernel
theorem dX5_second_44 : decode cX5_second 44 = .ok (.ireturn, 1) := by decide +kernel
theorem dX5_second_45 : decode cX5_second 45 = .ok (.iinc 3 1, 3) := by decide +kernel
theorem dX5_second_48 : decode cX5_second 48 = .ok (.goto (-23), 3) := by decide +kernel
theorem dX5_second_51 : decode cX5_second 51 = .ok (.bipush 18, 2) := by decide +kernel
theorem dX5_second_53 : decode cX5_second 53 = .ok (.ireturn, 1) := by decide +kernel
theorem dX5_span_0 : decode cX5_span 0 = .ok (.aload_n 0, 1) := by decide +kernel
theorem dX5_span_1 : decode cX5_span 1 = .ok (.iload_n 1, 1) := by decide +kernel
theorem dX5_span_2 : decode cX5_span 2 = .ok (.invokevirtual 48, 3) := by decide +kernel
theorem dX5_span_5 : decode cX5_span 5 = .ok (.astore_n 3, 1) := by decide +kernel
theorem dX5_span_6 : decode cX5_span 6 = .ok (.aload_n 3, 1) := by decide +kernel
theorem dX5_span_7 : decode cX5_span 7 = .ok (.ifnull 7, 3) := by decide +kernel
theorem dX5_span_10 : decode cX5_span 10 = .ok (.iload_n 2, 1) := by decide +kernel
theorem dX5_span_11 : decode cX5_span 11 = .ok (.ifCond .ge 6, 3) := by decide +kernel
theorem dX5_span_14 : decode cX5_span 14 = .ok (.bipush (-2), 2) := by decide +kernel
theorem dX5_span_16 : decode cX5_span 16 = .ok (.ireturn, 1) := by decide +kernel
theorem dX5_span_17 : decode cX5_span 17 = .ok (.aload_n 0, 1) := by decide +kernel
theorem dX5_span_18 : decode cX5_span 18 = .ok (.getfield 30, 3) := by decide +kernel
theorem dX5_span_21 : decode cX5_span 21 = .ok (.aload_n 3, 1) := by decide +kernel
theorem dX5_span_22 : decode cX5_span 22 = .ok (.iload_n 2, 1) := by decide +kernel
theorem dX5_span_23 : decode cX5_span 23 = .ok (.invokevirtual 134, 3) := by decide +kernel
theorem dX5_span_26 : decode cX5_span 26 = .ok (.aload_n 0, 1) := by decide +kernel
theorem dX5_span_27 : decode cX5_span 27 = .ok (.getfield 30, 3) := by decide +kernel
theorem dX5_span_30 : decode cX5_span 30 = .ok (.invokevirtual 145, 3) := by decide +kernel
theorem dX5_span_33 : decode cX5_span 33 = .ok (.ireturn, 1) := by decide +kernel
theorem dX5_best_0 : decode cX5_best 0 = .ok (.aload_n 0, 1) := by decide +kernel
theorem dX5_best_1 : decode cX5_best 1 = .ok (.iload_n 1, 1) := by decide +kernel
theorem dX5_best_2 : decode cX5_best 2 = .ok (.invokevirtual 48, 3) := by decide +kernel
theorem dX5_best_5 : decode cX5_best 5 = .ok (.astore_n 2, 1) := by decide +kernel
theorem dX5_best_6 : decode cX5_best 6 = .ok (.aload_n 2, 1) := by decide +kernel
theorem dX5_best_7 : decode cX5_best 7 = .ok (.ifnonnull 6, 3) := by decide +kernel
theorem dX5_best_10 : decode cX5_best 10 = .ok (.bipush (-2), 2) := by decide +kernel
theorem dX5_best_12 : decode cX5_best 12 = .ok (.ireturn, 1) := by decide +kernel
theorem dX5_best_13 : decode cX5_best 13 = .ok (.aload_n 2, 1) := by decide +kernel
theorem dX5_best_14 : decode cX5_best 14 = .ok (.invokevirtual 74, 3) := by decide +kernel
theorem dX5_best_17 : decode cX5_best 17 = .ok (.bipush 9, 2) := by decide +kernel
theorem dX5_best_19 : decode cX5_best 19 = .ok (.if_icmp .le 6, 3) := by decide +kernel
theorem dX5_best_22 : decode cX5_best 22 = .ok (.bipush (-3), 2) := by decide +kernel
theorem dX5_best_24 : decode cX5_best 24 = .ok (.ireturn, 1) := by decide +kernel
theorem dX5_best_25 : decode cX5_best 25 = .ok (.aload_n 0, 1) := by decide +kernel
theorem dX5_best_26 : decode cX5_best 26 = .ok (.aload_n 2, 1) := by decide +kernel
theorem dX5_best_27 : decode cX5_best 27 = .ok (.invokevirtual 148, 3) := by decide +kernel
theorem dX5_best_30 : decode cX5_best 30 = .ok (.ireturn, 1) := by decide +kernel
theorem dX5_walks_0 : decode cX5_walks 0 = .ok (.aload_n 0, 1) := by decide +kernel
theorem dX5_walks_1 : decode cX5_walks 1 = .ok (.iload_n 1, 1) := by decide +kernel
theorem dX5_walks_2 : decode cX5_walks 2 = .ok (.invokevirtual 48, 3) := by decide +kernel
theorem dX5_walks_5 : decode cX5_walks 5 = .ok (.astore 5, 2) := by decide +kernel
theorem dX5_walks_7 : decode cX5_walks 7 = .ok (.aload 5, 2) := by decide +kernel
theorem dX5_walks_9 : decode cX5_walks 9 = .ok (.ifnull 21, 3) := by decide +kernel
theorem dX5_walks_12 : decode cX5_walks 12 = .ok (.aload 5, 2) := by decide +kernel
theorem dX5_walks_14 : decode cX5_walks 14 = .ok (.iload_n 2, 1) := by decide +kernel
theorem dX5_walks_15 : decode cX5_walks 15 = .ok (.iload_n 3, 1) := by decide +kernel
theorem dX5_walks_16 : decode cX5_walks 16 = .ok (.invokevirtual 152, 3) := by decide +kernel
theorem dX5_walks_19 : decode cX5_walks 19 = .ok (.ifCond .eq 11, 3) := by decide +kernel
theorem dX5_walks_22 : decode cX5_walks 22 = .ok (.iload 4, 2) := by decide +kernel
theorem dX5_walks_24 : decode cX5_walks 24 = .ok (.invokestatic 155, 3) := by decide +kernel
theorem dX5_walks_27 : decode cX5_walks 27 = .ok (.ifCond .ne 7, 3) := by decide +kernel
theorem dX5_walks_30 : decode cX5_walks 30 = .ok (.ldc2_w 158, 3) := by decide +kernel
theorem dX5_walks_33 : decode cX5_walks 33 = .ok (.lreturn, 1) := by decide +kernel
theorem dX5_walks_34 : decode cX5_walks 34 = .ok (.aload_n 0, 1) := by decide +kernel
theorem dX5_walks_35 : decode cX5_walks 35 = .ok (.getfield 37, 3) := by decide +kernel
theorem dX5_walks_38 : decode cX5_walks 38 = .ok (.aload 5, 2) := by decide +kernel
theorem dX5_walks_40 : decode cX5_walks 40 = .ok (.iload_n 2, 1) := by decide +kernel
theorem dX5_walks_41 : decode cX5_walks 41 = .ok (.iload 4, 2) := by decide +kernel
theorem dX5_walks_43 : decode cX5_walks 43 = .ok (.invokevirtual 160, 3) := by decide +kernel
theorem dX5_walks_46 : decode cX5_walks 46 = .ok (.aload_n 0, 1) := by decide +kernel
theorem dX5_walks_47 : decode cX5_walks 47 = .ok (.getfield 37, 3) := by decide +kernel
theorem dX5_walks_50 : decode cX5_walks 50 = .ok (.getfield 164, 3) := by decide +kernel
theorem dX5_walks_53 : decode cX5_walks 53 = .ok (.iload_n 3, 1) := by decide +kernel
theorem dX5_walks_54 : decode cX5_walks 54 = .ok (.laload, 1) := by decide +kernel
theorem dX5_walks_55 : decode cX5_walks 55 = .ok (.lreturn, 1) := by decide +kernel
theorem dX5_uneven_0 : decode cX5_uneven 0 = .ok (.aload_n 0, 1) := by decide +kernel
theorem dX5_uneven_1 : decode cX5_uneven 1 = .ok (.iload_n 1, 1) := by decide +kernel
theorem dX5_uneven_2 : decode cX5_uneven 2 = .ok (.invokevirtual 48, 3) := by decide +kernel
theorem dX5_uneven_5 : decode cX5_uneven 5 = .ok (.astore 4, 2) := by decide +kernel
theorem dX5_uneven_7 : decode cX5_uneven 7 = .ok (.aload 4, 2) := by decide +kernel
theorem dX5_uneven_9 : decode cX5_uneven 9 = .ok (.ifnull 19, 3) := by decide +kernel
theorem dX5_uneven_12 : decode cX5_uneven 12 = .ok (.aload 4, 2) := by decide +kernel
theorem dX5_uneven_14 : decode cX5_uneven 14 = .ok (.iload_n 2, 1) := by decide +kernel
theorem dX5_uneven_15 : decode cX5_uneven 15 = .ok (.invokevirtual 99, 3) := by decide +kernel
theorem dX5_uneven_18 : decode cX5_uneven 18 = .ok (.ifCond .eq 10, 3) := by decide +kernel
theorem dX5_uneven_21 : decode cX5_uneven 21 = .ok (.iload_n 3, 1) := by decide +kernel
theorem dX5_uneven_22 : decode cX5_uneven 22 = .ok (.invokestatic 155, 3) := by decide +kernel
theorem dX5_uneven_25 : decode cX5_uneven 25 = .ok (.ifCond .ne 7, 3) := by decide +kernel
theorem dX5_uneven_28 : decode cX5_uneven 28 = .ok (.ldc2_w 158, 3) := by decide +kernel
theorem dX5_uneven_31 : decode cX5_uneven 31 = .ok (.lreturn, 1) := by decide +kernel
theorem dX5_uneven_32 : decode cX5_uneven 32 = .ok (.aload 4, 2) := by decide +kernel
theorem dX5_uneven_34 : decode cX5_uneven 34 = .ok (.invokevirtual 93, 3) := by decide +kernel
theorem dX5_uneven_37 : decode cX5_uneven 37 = .ok (.istore 5, 2) := by decide +kernel
theorem dX5_uneven_39 : decode cX5_uneven 39 = .ok (.iload 5, 2) := by decide +kernel
theorem dX5_uneven_41 : decode cX5_uneven 41 = .ok (.iconst (-1), 1) := by decide +kernel
theorem dX5_uneven_42 : decode cX5_uneven 42 = .ok (.if_icmp .ne 7, 3) := by decide +kernel
theorem dX5_uneven_45 : decode cX5_uneven 45 = .ok (.ldc2_w 168, 3) := by decide +kernel
theorem dX5_uneven_48 : decode cX5_uneven 48 = .ok (.lreturn, 1) := by decide +kernel
theorem dX5_uneven_49 : decode cX5_uneven 49 = .ok (.aload_n 0, 1) := by decide +kernel
theorem dX5_uneven_50 : decode cX5_uneven 50 = .ok (.getfield 37, 3) := by decide +kernel
theorem dX5_uneven_53 : decode cX5_uneven 53 = .ok (.aload 4, 2) := by decide +kernel
theorem dX5_uneven_55 : decode cX5_uneven 55 = .ok (.iload_n 2, 1) := by decide +kernel
theorem dX5_uneven_56 : decode cX5_uneven 56 = .ok (.iload_n 3, 1) := by decide +kernel
theorem dX5_uneven_57 : decode cX5_uneven 57 = .ok (.invokevirtual 160, 3) := by decide +kernel
theorem dX5_uneven_60 : decode cX5_uneven 60 = .ok (.aload_n 0, 1) := by decide +kernel
theorem dX5_uneven_61 : decode cX5_uneven 61 = .ok (.getfield 37, 3) := by decide +kernel
theorem dX5_uneven_64 : decode cX5_uneven 64 = .ok (.aload 4, 2) := by decide +kernel
theorem dX5_uneven_66 : decode cX5_uneven 66 = .ok (.getfield 78, 3) := by decide +kernel
theorem dX5_uneven_69 : decode cX5_uneven 69 = .ok (.iload 5, 2) := by decide +kernel
theorem dX5_uneven_71 : decode cX5_uneven 71 = .ok (.iload_n 3, 1) := by decide +kernel
theorem dX5_uneven_72 : decode cX5_uneven 72 = .ok (.invokestatic 170, 3) := by decide +kernel
theorem dX5_uneven_75 : decode cX5_uneven 75 = .ok (.invokevirtual 174, 3) := by decide +kernel
theorem dX5_uneven_78 : decode cX5_uneven 78 = .ok (.lreturn, 1) := by decide +kernel
theorem dX5_apart_0 : decode cX5_apart 0 = .ok (.aload_n 0, 1) := by decide +kernel
theorem dX5_apart_1 : decode cX5_apart 1 = .ok (.iload_n 1, 1) := by decide +kernel
theorem dX5_apart_2 : decode cX5_apart 2 = .ok (.invokevirtual 48, 3) := by decide +kernel
theorem dX5_apart_5 : decode cX5_apart 5 = .ok (.astore 4, 2) := by decide +kernel
theorem dX5_apart_7 : decode cX5_apart 7 = .ok (.aload 4, 2) := by decide +kernel
theorem dX5_apart_9 : decode cX5_apart 9 = .ok (.ifnull 21, 3) := by decide +kernel
theorem dX5_apart_12 : decode cX5_apart 12 = .ok (.aload 4, 2) := by decide +kernel
theorem dX5_apart_14 : decode cX5_apart 14 = .ok (.iload_n 2, 1) := by decide +kernel
theorem dX5_apart_15 : decode cX5_apart 15 = .ok (.invokevirtual 178, 3) := by decide +kernel
theorem dX5_apart_18 : decode cX5_apart 18 = .ok (.ifCond .eq 12, 3) := by decide +kernel
theorem dX5_apart_21 : decode cX5_apart 21 = .ok (.aload 4, 2) := by decide +kernel
theorem dX5_apart_23 : decode cX5_apart 23 = .ok (.iload_n 3, 1) := by decide +kernel
theorem dX5_apart_24 : decode cX5_apart 24 = .ok (.invokevirtual 178, 3) := by decide +kernel
theorem dX5_apart_27 : decode cX5_apart 27 = .ok (.ifCond .ne 6, 3) := by decide +kernel
theorem dX5_apart_30 : decode cX5_apart 30 = .ok (.bipush (-2), 2) := by decide +kernel
theorem dX5_apart_32 : decode cX5_apart 32 = .ok (.ireturn, 1) := by decide +kernel
theorem dX5_apart_33 : decode cX5_apart 33 = .ok (.aload_n 0, 1) := by decide +kernel
theorem dX5_apart_34 : decode cX5_apart 34 = .ok (.getfield 44, 3) := by decide +kernel
theorem dX5_apart_37 : decode cX5_apart 37 = .ok (.aload 4, 2) := by decide +kernel
theorem dX5_apart_39 : decode cX5_apart 39 = .ok (.iload_n 2, 1) := by decide +kernel
theorem dX5_apart_40 : decode cX5_apart 40 = .ok (.iload_n 3, 1) := by decide +kernel
theorem dX5_apart_41 : decode cX5_apart 41 = .ok (.invokevirtual 181, 3) := by decide +kernel
theorem dX5_apart_44 : decode cX5_apart 44 = .ok (.ireturn, 1) := by decide +kernel
theorem dX5_distance_0 : decode cX5_distance 0 = .ok (.aload_n 0, 1) := by decide +kernel
theorem dX5_distance_1 : decode cX5_distance 1 = .ok (.iload_n 1, 1) := by decide +kernel
theorem dX5_distance_2 : decode cX5_distance 2 = .ok (.invokevirtual 48, 3) := by decide +kernel
theorem dX5_distance_5 : decode cX5_distance 5 = .ok (.astore 4, 2) := by decide +kernel
theorem dX5_distance_7 : decode cX5_distance 7 = .ok (.aload 4, 2) := by decide +kernel
theorem dX5_distance_9 : decode cX5_distance 9 = .ok (.ifnull 13, 3) := by decide +kernel
theorem dX5_distance_12 : decode cX5_distance 12 = .ok (.aload 4, 2) := by decide +kernel
theorem dX5_distance_14 : decode cX5_distance 14 = .ok (.iload_n 2, 1) := by decide +kernel
theorem dX5_distance_15 : decode cX5_distance 15 = .ok (.iload_n 3, 1) := by decide +kernel
theorem dX5_distance_16 : decode cX5_distance 16 = .ok (.invokevirtual 152, 3) := by decide +kernel
theorem dX5_distance_19 : decode cX5_distance 19 = .ok (.ifCond .ne 6, 3) := by decide +kernel
theorem dX5_distance_22 : decode cX5_distance 22 = .ok (.bipush (-2), 2) := by decide +kernel
theorem dX5_distance_24 : decode cX5_distance 24 = .ok (.ireturn, 1) := by decide +kernel
theorem dX5_distance_25 : decode cX5_distance 25 = .ok (.aload 4, 2) := by decide +kernel
theorem dX5_distance_27 : decode cX5_distance 27 = .ok (.iload_n 2, 1) := by decide +kernel
theorem dX5_distance_28 : decode cX5_distance 28 = .ok (.iload_n 3, 1) := by decide +kernel
theorem dX5_distance_29 : decode cX5_distance 29 = .ok (.iconst 1, 1) := by decide +kernel
theorem dX5_distance_30 : decode cX5_distance 30 = .ok (.invokevirtual 185, 3) := by decide +kernel
theorem dX5_distance_33 : decode cX5_distance 33 = .ok (.ireturn, 1) := by decide +kernel
theorem dX5_round_0 : decode cX5_round 0 = .ok (.aload_n 0, 1) := by decide +kernel
theorem dX5_round_1 : decode cX5_round 1 = .ok (.iload_n 1, 1) := by decide +kernel
theorem dX5_round_2 : decode cX5_round 2 = .ok (.invokevirtual 48, 3) := by decide +kernel
theorem dX5_round_5 : decode cX5_round 5 = .ok (.astore_n 2, 1) := by decide +kernel
theorem dX5_round_6 : decode cX5_round 6 = .ok (.aload_n 2, 1) := by decide +kernel
theorem dX5_round_7 : decode cX5_round 7 = .ok (.ifnonnull 6, 3) := by decide +kernel
theorem dX5_round_10 : decode cX5_round 10 = .ok (.bipush (-2), 2) := by decide +kernel
theorem dX5_round_12 : decode cX5_round 12 = .ok (.ireturn, 1) := by decide +kernel
theorem dX5_round_13 : decode cX5_round 13 = .ok (.aload_n 2, 1) := by decide +kernel
theorem dX5_round_14 : decode cX5_round 14 = .ok (.invokevirtual 189, 3) := by decide +kernel
theorem dX5_round_17 : decode cX5_round 17 = .ok (.ireturn, 1) := by decide +kernel
theorem dX5_odd_0 : decode cX5_odd 0 = .ok (.aload_n 0, 1) := by decide +kernel
theorem dX5_odd_1 : decode cX5_odd 1 = .ok (.iload_n 1, 1) := by decide +kernel
theorem dX5_odd_2 : decode cX5_odd 2 = .ok (.invokevirtual 48, 3) := by decide +kernel
theorem dX5_odd_5 : decode cX5_odd 5 = .ok (.astore 4, 2) := by decide +kernel
theorem dX5_odd_7 : decode cX5_odd 7 = .ok (.aload 4, 2) := by decide +kernel
theorem dX5_odd_9 : decode cX5_odd 9 = .ok (.ifnull 12, 3) := by decide +kernel
theorem dX5_odd_12 : decode cX5_odd 12 = .ok (.aload 4, 2) := by decide +kernel
theorem dX5_odd_14 : decode cX5_odd 14 = .ok (.lload_n 2, 1) := by decide +kernel
theorem dX5_odd_15 : decode cX5_odd 15 = .ok (.invokevirtual 192, 3) := by decide +kernel
theorem dX5_odd_18 : decode cX5_odd 18 = .ok (.ifCond .ne 6, 3) := by decide +kernel
theorem dX5_odd_21 : decode cX5_odd 21 = .ok (.bipush (-2), 2) := by decide +kernel
theorem dX5_odd_23 : decode cX5_odd 23 = .ok (.ireturn, 1) := by decide +kernel
theorem dX5_odd_24 : decode cX5_odd 24 = .ok (.aload 4, 2) := by decide +kernel
theorem dX5_odd_26 : decode cX5_odd 26 = .ok (.lload_n 2, 1) := by decide +kernel
theorem dX5_odd_27 : decode cX5_odd 27 = .ok (.invokevirtual 196, 3) := by decide +kernel
theorem dX5_odd_30 : decode cX5_odd 30 = .ok (.invokestatic 200, 3) := by decide +kernel
theorem dX5_odd_33 : decode cX5_odd 33 = .ok (.ireturn, 1) := by decide +kernel
theorem dX5_flipped_0 : decode cX5_flipped 0 = .ok (.aload_n 0, 1) := by decide +kernel
theorem dX5_flipped_1 : decode cX5_flipped 1 = .ok (.iload_n 1, 1) := by decide +kernel
theorem dX5_flipped_2 : decode cX5_flipped 2 = .ok (.invokevirtual 48, 3) := by decide +kernel
theorem dX5_flipped_5 : decode cX5_flipped 5 = .ok (.astore 4, 2) := by decide +kernel
theorem dX5_flipped_7 : decode cX5_flipped 7 = .ok (.aload 4, 2) := by decide +kernel
theorem dX5_flipped_9 : decode cX5_flipped 9 = .ok (.ifnull 12, 3) := by decide +kernel
theorem dX5_flipped_12 : decode cX5_flipped 12 = .ok (.aload 4, 2) := by decide +kernel
theorem dX5_flipped_14 : decode cX5_flipped 14 = .ok (.lload_n 2, 1) := by decide +kernel
theorem dX5_flipped_15 : decode cX5_flipped 15 = .ok (.invokevirtual 192, 3) := by decide +kernel
theorem dX5_flipped_18 : decode cX5_flipped 18 = .ok (.ifCond .ne 7, 3) := by decide +kernel
theorem dX5_flipped_21 : decode cX5_flipped 21 = .ok (.ldc2_w 158, 3) := by decide +kernel
theorem dX5_flipped_24 : decode cX5_flipped 24 = .ok (.lreturn, 1) := by decide +kernel
theorem dX5_flipped_25 : decode cX5_flipped 25 = .ok (.aload 4, 2) := by decide +kernel
theorem dX5_flipped_27 : decode cX5_flipped 27 = .ok (.lload_n 2, 1) := by decide +kernel
theorem dX5_flipped_28 : decode cX5_flipped 28 = .ok (.invokevirtual 205, 3) := by decide +kernel
theorem dX5_flipped_31 : decode cX5_flipped 31 = .ok (.lreturn, 1) := by decide +kernel
theorem dX5_digest_0 : decode cX5_digest 0 = .ok (.ldc2_w 209, 3) := by decide +kernel
theorem dX5_digest_3 : decode cX5_digest 3 = .ok (.lstore_n 1, 1) := by decide +kernel
theorem dX5_digest_4 : decode cX5_digest 4 = .ok (.iconst 0, 1) := by decide +kernel
theorem dX5_digest_5 : decode cX5_digest 5 = .ok (.istore_n 3, 1) := by decide +kernel
theorem dX5_digest_6 : decode cX5_digest 6 = .ok (.iload_n 3, 1) := by decide +kernel
theorem dX5_digest_7 : decode cX5_digest 7 = .ok (.iconst 4, 1) := by decide +kernel
theorem dX5_digest_8 : decode cX5_digest 8 = .ok (.if_icmp .ge 20, 3) := by decide +kernel
theorem dX5_digest_11 : decode cX5_digest 11 = .ok (.aload_n 0, 1) := by decide +kernel
theorem dX5_digest_12 : decode cX5_digest 12 = .ok (.getfield 11, 3) := by decide +kernel
theorem dX5_digest_15 : decode cX5_digest 15 = .ok (.iload_n 3, 1) := by decide +kernel
theorem dX5_digest_16 : decode cX5_digest 16 = .ok (.aaload, 1) := by decide +kernel
theorem dX5_digest_17 : decode cX5_digest 17 = .ok (.lload_n 1, 1) := by decide +kernel
theorem dX5_digest_18 : decode cX5_digest 18 = .ok (.invokevirtual 211, 3) := by decide +kernel
theorem dX5_digest_21 : decode cX5_digest 21 = .ok (.lstore_n 1, 1) := by decide +kernel
theorem dX5_digest_22 : decode cX5_digest 22 = .ok (.iinc 3 1, 3) := by decide +kernel
theorem dX5_digest_25 : decode cX5_digest 25 = .ok (.goto (-19), 3) := by decide +kernel
theorem dX5_digest_28 : decode cX5_digest 28 = .ok (.lload_n 1, 1) := by decide +kernel
theorem dX5_digest_29 : decode cX5_digest 29 = .ok (.lreturn, 1) := by decide +kernel
theorem dX5_netAt_0 : decode cX5_netAt 0 = .ok (.iload_n 1, 1) := by decide +kernel
theorem dX5_netAt_1 : decode cX5_netAt 1 = .ok (.ifCond .lt 17, 3) := by decide +kernel
theorem dX5_netAt_4 : decode cX5_netAt 4 = .ok (.iload_n 1, 1) := by decide +kernel
theorem dX5_netAt_5 : decode cX5_netAt 5 = .ok (.iconst 4, 1) := by decide +kernel
theorem dX5_netAt_6 : decode cX5_netAt 6 = .ok (.if_icmp .ge 12, 3) := by decide +kernel
theorem dX5_netAt_9 : decode cX5_netAt 9 = .ok (.aload_n 0, 1) := by decide +kernel
theorem dX5_netAt_10 : decode cX5_netAt 10 = .ok (.getfield 11, 3) := by decide +kernel
theorem dX5_netAt_13 : decode cX5_netAt 13 = .ok (.iload_n 1, 1) := by decide +kernel
theorem dX5_netAt_14 : decode cX5_netAt 14 = .ok (.aaload, 1) := by decide +kernel
theorem dX5_netAt_15 : decode cX5_netAt 15 = .ok (.goto 4, 3) := by decide +kernel
theorem dX5_netAt_18 : decode cX5_netAt 18 = .ok (.aconst_null, 1) := by decide +kernel
theorem dX5_netAt_19 : decode cX5_netAt 19 = .ok (.areturn, 1) := by decide +kernel
theorem dX5_isKnotCount_0 : decode cX5_isKnotCount 0 = .ok (.iload_n 0, 1) := by decide +kernel
theorem dX5_isKnotCount_1 : decode cX5_isKnotCount 1 = .ok (.iconst 1, 1) := by decide +kernel
theorem dX5_isKnotCount_2 : decode cX5_isKnotCount 2 = .ok (.if_icmp .lt 13, 3) := by decide +kernel
theorem dX5_isKnotCount_5 : decode cX5_isKnotCount 5 = .ok (.iload_n 0, 1) := by decide +kernel
theorem dX5_isKnotCount_6 : decode cX5_isKnotCount 6 = .ok (.bipush 10, 2) := by decide +kernel
theorem dX5_isKnotCount_8 : decode cX5_isKnotCount 8 = .ok (.if_icmp .gt 7, 3) := by decide +kernel
theorem dX5_isKnotCount_11 : decode cX5_isKnotCount 11 = .ok (.iconst 1, 1) := by decide +kernel
theorem dX5_isKnotCount_12 : decode cX5_isKnotCount 12 = .ok (.goto 4, 3) := by decide +kernel
theorem dX5_isKnotCount_15 : decode cX5_isKnotCount 15 = .ok (.iconst 0, 1) := by decide +kernel
theorem dX5_isKnotCount_16 : decode cX5_isKnotCount 16 = .ok (.ireturn, 1) := by decide +kernel
theorem dX5_isHalves_0 : decode cX5_isHalves 0 = .ok (.iload_n 0, 1) := by decide +kernel
theorem dX5_isHalves_1 : decode cX5_isHalves 1 = .ok (.bipush (-40), 2) := by decide +kernel
theorem dX5_isHalves_3 : decode cX5_isHalves 3 = .ok (.if_icmp .lt 13, 3) := by decide +kernel
theorem dX5_isHalves_6 : decode cX5_isHalves 6 = .ok (.iload_n 0, 1) := by decide +kernel
theorem dX5_isHalves_7 : decode cX5_isHalves 7 = .ok (.bipush 40, 2) := by decide +kernel
theorem dX5_isHalves_9 : decode cX5_isHalves 9 = .ok (.if_icmp .gt 7, 3) := by decide +kernel
theorem dX5_isHalves_12 : decode cX5_isHalves 12 = .ok (.iconst 1, 1) := by decide +kernel
theorem dX5_isHalves_13 : decode cX5_isHalves 13 = .ok (.goto 4, 3) := by decide +kernel
theorem dX5_isHalves_16 : decode cX5_isHalves 16 = .ok (.iconst 0, 1) := by decide +kernel
theorem dX5_isHalves_17 : decode cX5_isHalves 17 = .ok (.ireturn, 1) := by decide +kernel
theorem dX5_isStepCount_0 : decode cX5_isStepCount 0 = .ok (.iload_n 0, 1) := by decide +kernel
theorem dX5_isStepCount_1 : decode cX5_isStepCount 1 = .ok (.ifCond .lt 13, 3) := by decide +kernel
theorem dX5_isStepCount_4 : decode cX5_isStepCount 4 = .ok (.iload_n 0, 1) := by decide +kernel
theorem dX5_isStepCount_5 : decode cX5_isStepCount 5 = .ok (.bipush 12, 2) := by decide +kernel
theorem dX5_isStepCount_7 : decode cX5_isStepCount 7 = .ok (.if_icmp .gt 7, 3) := by decide +kernel
theorem dX5_isStepCount_10 : decode cX5_isStepCount 10 = .ok (.iconst 1, 1) := by decide +kernel
theorem dX5_isStepCount_11 : decode cX5_isStepCount 11 = .ok (.goto 4, 3) := by decide +kernel
theorem dX5_isStepCount_14 : decode cX5_isStepCount 14 = .ok (.iconst 0, 1) := by decide +kernel
theorem dX5_isStepCount_15 : decode cX5_isStepCount 15 = .ok (.ireturn, 1) := by decide +kernel
theorem dX5_power_0 : decode cX5_power 0 = .ok (.lconst 1, 1) := by decide +kernel
theorem dX5_power_1 : decode cX5_power 1 = .ok (.lstore_n 2, 1) := by decide +kernel
theorem dX5_power_2 : decode cX5_power 2 = .ok (.iconst 0, 1) := by decide +kernel
theorem dX5_power_3 : decode cX5_power 3 = .ok (.istore 4, 2) := by decide +kernel
theorem dX5_power_5 : decode cX5_power 5 = .ok (.iload 4, 2) := by decide +kernel
theorem dX5_power_7 : decode cX5_power 7 = .ok (.iload_n 1, 1) := by decide +kernel
theorem dX5_power_8 : decode cX5_power 8 = .ok (.if_icmp .ge 14, 3) := by decide +kernel
theorem dX5_power_11 : decode cX5_power 11 = .ok (.lload_n 2, 1) := by decide +kernel
theorem dX5_power_12 : decode cX5_power 12 = .ok (.iload_n 0, 1) := by decide +kernel
theorem dX5_power_13 : decode cX5_power 13 = .ok (.i2l, 1) := by decide +kernel
theorem dX5_power_14 : decode cX5_power 14 = .ok (.lmul, 1) := by decide +kernel
theorem dX5_power_15 : decode cX5_power 15 = .ok (.lstore_n 2, 1) := by decide +kernel
theorem dX5_power_16 : decode cX5_power 16 = .ok (.iinc 4 1, 3) := by decide +kernel
theorem dX5_power_19 : decode cX5_power 19 = .ok (.goto (-14), 3) := by decide +kernel
theorem dX5_power_22 : decode cX5_power 22 = .ok (.lload_n 2, 1) := by decide +kernel
theorem dX5_power_23 : decode cX5_power 23 = .ok (.lreturn, 1) := by decide +kernel
theorem dX5_leastSigning_0 : decode cX5_leastSigning 0 = .ok (.aload_n 0, 1) := by decide +kernel
theorem dX5_leastSigning_1 : decode cX5_leastSigning 1 = .ok (.aload_n 1, 1) := by decide +kernel
theorem dX5_leastSigning_2 : decode cX5_leastSigning 2 = .ok (.invokevirtual 214, 3) := by decide +kernel
theorem dX5_leastSigning_5 : decode cX5_leastSigning 5 = .ok (.istore_n 2, 1) := by decide +kernel
theorem dX5_leastSigning_6 : decode cX5_leastSigning 6 = .ok (.iconst 1, 1) := by decide +kernel
theorem dX5_leastSigning_7 : decode cX5_leastSigning 7 = .ok (.aload_n 1, 1) := by decide +kernel
theorem dX5_leastSigning_8 : decode cX5_leastSigning 8 = .ok (.invokevirtual 74, 3) := by decide +kernel
theorem dX5_leastSigning_11 : decode cX5_leastSigning 11 = .ok (.ishl, 1) := by decide +kernel
theorem dX5_leastSigning_12 : decode cX5_leastSigning 12 = .ok (.istore_n 3, 1) := by decide +kernel
theorem dX5_leastSigning_13 : decode cX5_leastSigning 13 = .ok (.iconst 0, 1) := by decide +kernel
theorem dX5_leastSigning_14 : decode cX5_leastSigning 14 = .ok (.istore 4, 2) := by decide +kernel
theorem dX5_leastSigning_16 : decode cX5_leastSigning 16 = .ok (.bipush 19, 2) := by decide +kernel
theorem dX5_leastSigning_18 : decode cX5_leastSigning 18 = .ok (.istore 5, 2) := by decide +kernel
theorem dX5_leastSigning_20 : decode cX5_leastSigning 20 = .ok (.iconst 0, 1) := by decide +kernel
theorem dX5_leastSigning_21 : decode cX5_leastSigning 21 = .ok (.istore 6, 2) := by decide +kernel
theorem dX5_leastSigning_23 : decode cX5_leastSigning 23 = .ok (.iload 6, 2) := by decide +kernel
theorem dX5_leastSigning_25 : decode cX5_leastSigning 25 = .ok (.iload_n 3, 1) := by decide +kernel
theorem dX5_leastSigning_26 : decode cX5_leastSigning 26 = .ok (.if_icmp .ge 53, 3) := by decide +kernel
theorem dX5_leastSigning_29 : decode cX5_leastSigning 29 = .ok (.iload 6, 2) := by decide +kernel
theorem dX5_leastSigning_31 : decode cX5_leastSigning 31 = .ok (.iload_n 2, 1) := by decide +kernel
theorem dX5_leastSigning_32 : decode cX5_leastSigning 32 = .ok (.iand, 1) := by decide +kernel
theorem dX5_leastSigning_33 : decode cX5_leastSigning 33 = .ok (.ifCond .eq 6, 3) := by decide +kernel
theorem dX5_leastSigning_36 : decode cX5_leastSigning 36 = .ok (.goto 37, 3) := by decide +kernel
theorem dX5_leastSigning_39 : decode cX5_leastSigning 39 = .ok (.aload_n 0, 1) := by decide +kernel
theorem dX5_leastSigning_40 : decode cX5_leastSigning 40 = .ok (.getfield 30, 3) := by decide +kernel
theorem dX5_leastSigning_43 : decode cX5_leastSigning 43 = .ok (.aload_n 1, 1) := by decide +kernel
theorem dX5_leastSigning_44 : decode cX5_leastSigning 44 = .ok (.iload 6, 2) := by decide +kernel
theorem dX5_leastSigning_46 : decode cX5_leastSigning 46 = .ok (.invokevirtual 134, 3) := by decide +kernel
theorem dX5_leastSigning_49 : decode cX5_leastSigning 49 = .ok (.aload_n 0, 1) := by decide +kernel
theorem dX5_leastSigning_50 : decode cX5_leastSigning 50 = .ok (.getfield 30, 3) := by decide +kernel
theorem dX5_leastSigning_53 : decode cX5_leastSigning 53 = .ok (.invokevirtual 145, 3) := by decide +kernel
theorem dX5_leastSigning_56 : decode cX5_leastSigning 56 = .ok (.istore 7, 2) := by decide +kernel
theorem dX5_leastSigning_58 : decode cX5_leastSigning 58 = .ok (.iload 7, 2) := by decide +kernel
theorem dX5_leastSigning_60 : decode cX5_leastSigning 60 = .ok (.iload 5, 2) := by decide +kernel
theorem dX5_leastSigning_62 : decode cX5_leastSigning 62 = .ok (.if_icmp .ge 11, 3) := by decide +kernel
theorem dX5_leastSigning_65 : decode cX5_leastSigning 65 = .ok (.iload 7, 2) := by decide +kernel
theorem dX5_leastSigning_67 : decode cX5_leastSigning 67 = .ok (.istore 5, 2) := by decide +kernel
theorem dX5_leastSigning_69 : decode cX5_leastSigning 69 = .ok (.iload 6, 2) := by decide +kernel
theorem dX5_leastSigning_71 : decode cX5_leastSigning 71 = .ok (.istore 4, 2) := by decide +kernel
theorem dX5_leastSigning_73 : decode cX5_leastSigning 73 = .ok (.iinc 6 1, 3) := by decide +kernel
theorem dX5_leastSigning_76 : decode cX5_leastSigning 76 = .ok (.goto (-53), 3) := by decide +kernel
theorem dX5_leastSigning_79 : decode cX5_leastSigning 79 = .ok (.iload 4, 2) := by decide +kernel
theorem dX5_leastSigning_81 : decode cX5_leastSigning 81 = .ok (.ireturn, 1) := by decide +kernel
theorem dX5_lateForest_0 : decode cX5_lateForest 0 = .ok (.aload_n 0, 1) := by decide +kernel
theorem dX5_lateForest_1 : decode cX5_lateForest 1 = .ok (.getfield 16, 3) := by decide +kernel
theorem dX5_lateForest_4 : decode cX5_lateForest 4 = .ok (.aload_n 1, 1) := by decide +kernel
theorem dX5_lateForest_5 : decode cX5_lateForest 5 = .ok (.getfield 78, 3) := by decide +kernel
theorem dX5_lateForest_8 : decode cX5_lateForest 8 = .ok (.invokevirtual 56, 3) := by decide +kernel
theorem dX5_lateForest_11 : decode cX5_lateForest 11 = .ok (.iconst 0, 1) := by decide +kernel
theorem dX5_lateForest_12 : decode cX5_lateForest 12 = .ok (.istore_n 2, 1) := by decide +kernel
theorem dX5_lateForest_13 : decode cX5_lateForest 13 = .ok (.aload_n 1, 1) := by decide +kernel
theorem dX5_lateForest_14 : decode cX5_lateForest 14 = .ok (.invokevirtual 74, 3) := by decide +kernel
theorem dX5_lateForest_17 : decode cX5_lateForest 17 = .ok (.istore_n 3, 1) := by decide +kernel
theorem dX5_lateForest_18 : decode cX5_lateForest 18 = .ok (.aload_n 1, 1) := by decide +kernel
theorem dX5_lateForest_19 : decode cX5_lateForest 19 = .ok (.getfield 78, 3) := by decide +kernel
theorem dX5_lateForest_22 : decode cX5_lateForest 22 = .ok (.iconst 1, 1) := by decide +kernel
theorem dX5_lateForest_23 : decode cX5_lateForest 23 = .ok (.isub, 1) := by decide +kernel
theorem dX5_lateForest_24 : decode cX5_lateForest 24 = .ok (.istore 4, 2) := by decide +kernel
theorem dX5_lateForest_26 : decode cX5_lateForest 26 = .ok (.iload 4, 2) := by decide +kernel
theorem dX5_lateForest_28 : decode cX5_lateForest 28 = .ok (.ifCond .lt 80, 3) := by decide +kernel
theorem dX5_lateForest_31 : decode cX5_lateForest 31 = .ok (.aload_n 1, 1) := by decide +kernel
theorem dX5_lateForest_32 : decode cX5_lateForest 32 = .ok (.getfield 78, 3) := by decide +kernel
theorem dX5_lateForest_35 : decode cX5_lateForest 35 = .ok (.iconst 1, 1) := by decide +kernel
theorem dX5_lateForest_36 : decode cX5_lateForest 36 = .ok (.isub, 1) := by decide +kernel
theorem dX5_lateForest_37 : decode cX5_lateForest 37 = .ok (.istore 5, 2) := by decide +kernel
theorem dX5_lateForest_39 : decode cX5_lateForest 39 = .ok (.iload 5, 2) := by decide +kernel
theorem dX5_lateForest_41 : decode cX5_lateForest 41 = .ok (.iload 4, 2) := by decide +kernel
theorem dX5_lateForest_43 : decode cX5_lateForest 43 = .ok (.if_icmp .le 59, 3) := by decide +kernel
theorem dX5_lateForest_46 : decode cX5_lateForest 46 = .ok (.aload_n 1, 1) := by decide +kernel
theorem dX5_lateForest_47 : decode cX5_lateForest 47 = .ok (.iload 4, 2) := by decide +kernel
theorem dX5_lateForest_49 : decode cX5_lateForest 49 = .ok (.iload 5, 2) := by decide +kernel
theorem dX5_lateForest_51 : decode cX5_lateForest 51 = .ok (.invokevirtual 64, 3) := by decide +kernel
theorem dX5_lateForest_54 : decode cX5_lateForest 54 = .ok (.ifCond .ne 6, 3) := by decide +kernel
theorem dX5_lateForest_57 : decode cX5_lateForest 57 = .ok (.goto 39, 3) := by decide +kernel
theorem dX5_lateForest_60 : decode cX5_lateForest 60 = .ok (.iinc 3 (-1), 3) := by decide +kernel
theorem dX5_lateForest_63 : decode cX5_lateForest 63 = .ok (.aload_n 0, 1) := by decide +kernel
theorem dX5_lateForest_64 : decode cX5_lateForest 64 = .ok (.getfield 16, 3) := by decide +kernel
theorem dX5_lateForest_67 : decode cX5_lateForest 67 = .ok (.iload 4, 2) := by decide +kernel
theorem dX5_lateForest_69 : decode cX5_lateForest 69 = .ok (.iload 5, 2) := by decide +kernel
theorem dX5_lateForest_71 : decode cX5_lateForest 71 = .ok (.iconst 1, 1) := by decide +kernel
theorem dX5_lateForest_72 : decode cX5_lateForest 72 = .ok (.invokevirtual 185, 3) := by decide +kernel
theorem dX5_lateForest_75 : decode cX5_lateForest 75 = .ok (.iconst (-1), 1) := by decide +kernel
theorem dX5_lateForest_76 : decode cX5_lateForest 76 = .ok (.if_icmp .ne 20, 3) := by decide +kernel
theorem dX5_lateForest_79 : decode cX5_lateForest 79 = .ok (.aload_n 0, 1) := by decide +kernel
theorem dX5_lateForest_80 : decode cX5_lateForest 80 = .ok (.getfield 16, 3) := by decide +kernel
theorem dX5_lateForest_83 : decode cX5_lateForest 83 = .ok (.iload 4, 2) := by decide +kernel
theorem dX5_lateForest_85 : decode cX5_lateForest 85 = .ok (.iload 5, 2) := by decide +kernel
theorem dX5_lateForest_87 : decode cX5_lateForest 87 = .ok (.invokevirtual 67, 3) := by decide +kernel
theorem dX5_lateForest_90 : decode cX5_lateForest 90 = .ok (.iload_n 2, 1) := by decide +kernel
theorem dX5_lateForest_91 : decode cX5_lateForest 91 = .ok (.iconst 1, 1) := by decide +kernel
theorem dX5_lateForest_92 : decode cX5_lateForest 92 = .ok (.iload_n 3, 1) := by decide +kernel
theorem dX5_lateForest_93 : decode cX5_lateForest 93 = .ok (.ishl, 1) := by decide +kernel
theorem dX5_lateForest_94 : decode cX5_lateForest 94 = .ok (.ior, 1) := by decide +kernel
theorem dX5_lateForest_95 : decode cX5_lateForest 95 = .ok (.istore_n 2, 1) := by decide +kernel
theorem dX5_lateForest_96 : decode cX5_lateForest 96 = .ok (.iinc 5 (-1), 3) := by decide +kernel
theorem dX5_lateForest_99 : decode cX5_lateForest 99 = .ok (.goto (-60), 3) := by decide +kernel
theorem dX5_lateForest_102 : decode cX5_lateForest 102 = .ok (.iinc 4 (-1), 3) := by decide +kernel
theorem dX5_lateForest_105 : decode cX5_lateForest 105 = .ok (.goto (-79), 3) := by decide +kernel
theorem dX5_lateForest_108 : decode cX5_lateForest 108 = .ok (.iload_n 2, 1) := by decide +kernel
theorem dX5_lateForest_109 : decode cX5_lateForest 109 = .ok (.ireturn, 1) := by decide +kernel
theorem dX6_init_0 : decode cX6_init 0 = .ok (.aload_n 0, 1) := by decide +kernel
theorem dX6_init_1 : decode cX6_init 1 = .ok (.invokespecial 1, 3) := by decide +kernel
theorem dX6_init_4 : decode cX6_init 4 = .ok (.aload_n 0, 1) := by decide +kernel
theorem dX6_init_5 : decode cX6_init 5 = .ok (.iconst 4, 1) := by decide +kernel
theorem dX6_init_6 : decode cX6_init 6 = .ok (.newarray .int, 2) := by decide +kernel
theorem dX6_init_8 : decode cX6_init 8 = .ok (.putfield 7, 3) := by decide +kernel
theorem dX6_init_11 : decode cX6_init 11 = .ok (.aload_n 0, 1) := by decide +kernel
theorem dX6_init_12 : decode cX6_init 12 = .ok (.bipush 40, 2) := by decide +kernel
theorem dX6_init_14 : decode cX6_init 14 = .ok (.newarray .int, 2) := by decide +kernel
theorem dX6_init_16 : decode cX6_init 16 = .ok (.putfield 13, 3) := by decide +kernel
theorem dX6_init_19 : decode cX6_init 19 = .ok (.aload_n 0, 1) := by decide +kernel
theorem dX6_init_20 : decode cX6_init 20 = .ok (.bipush 10, 2) := by decide +kernel
theorem dX6_init_22 : decode cX6_init 22 = .ok (.newarray .int, 2) := by decide +kernel
theorem dX6_init_24 : decode cX6_init 24 = .ok (.putfield 16, 3) := by decide +kernel
theorem dX6_init_27 : decode cX6_init 27 = .ok (.aload_n 0, 1) := by decide +kernel
theorem dX6_init_28 : decode cX6_init 28 = .ok (.bipush 10, 2) := by decide +kernel
theorem dX6_init_30 : decode cX6_init 30 = .ok (.newarray .int, 2) := by decide +kernel
theorem dX6_init_32 : decode cX6_init 32 = .ok (.putfield 19, 3) := by decide +kernel
theorem dX6_init_35 : decode cX6_init 35 = .ok (.aload_n 0, 1) := by decide +kernel
theorem dX6_init_36 : decode cX6_init 36 = .ok (.bipush 45, 2) := by decide +kernel
theorem dX6_init_38 : decode cX6_init 38 = .ok (.newarray .int, 2) := by decide +kernel
theorem dX6_init_40 : decode cX6_init 40 = .ok (.putfield 22, 3) := by decide +kernel
theorem dX6_init_43 : decode cX6_init 43 = .ok (.aload_n 0, 1) := by decide +kernel
theorem dX6_init_44 : decode cX6_init 44 = .ok (.bipush 45, 2) := by decide +kernel
theorem dX6_init_46 : decode cX6_init 46 = .ok (.newarray .int, 2) := by decide +kernel
theorem dX6_init_48 : decode cX6_init 48 = .ok (.putfield 25, 3) := by decide +kernel
theorem dX6_init_51 : decode cX6_init 51 = .ok (.aload_n 0, 1) := by decide +kernel
theorem dX6_init_52 : decode cX6_init 52 = .ok (.bipush 100, 2) := by decide +kernel
theorem dX6_init_54 : decode cX6_init 54 = .ok (.newarray .long, 2) := by decide +kernel
theorem dX6_init_56 : decode cX6_init 56 = .ok (.putfield 28, 3) := by decide +kernel
theorem dX6_init_59 : decode cX6_init 59 = .ok (.aload_n 0, 1) := by decide +kernel
theorem dX6_init_60 : decode cX6_init 60 = .ok (.bipush 100, 2) := by decide +kernel
theorem dX6_init_62 : decode cX6_init 62 = .ok (.newarray .long, 2) := by decide +kernel
theorem dX6_init_64 : decode cX6_init 64 = .ok (.putfield 32, 3) := by decide +kernel
theorem dX6_init_67 : decode cX6_init 67 = .ok (.aload_n 0, 1) := by decide +kernel
theorem dX6_init_68 : decode cX6_init 68 = .ok (.bipush 100, 2) := by decide +kernel
theorem dX6_init_70 : decode cX6_init 70 = .ok (.newarray .long, 2) := by decide +kernel
theorem dX6_init_72 : decode cX6_init 72 = .ok (.putfield 35, 3) := by decide +kernel
theorem dX6_init_75 : decode cX6_init 75 = .ok (.aload_n 0, 1) := by decide +kernel
theorem dX6_init_76 : decode cX6_init 76 = .ok (.bipush 11, 2) := by decide +kernel
theorem dX6_init_78 : decode cX6_init 78 = .ok (.newarray .long, 2) := by decide +kernel
theorem dX6_init_80 : decode cX6_init 80 = .ok (.putfield 38, 3) := by decide +kernel
theorem dX6_init_83 : decode cX6_init 83 = .ok (.aload_n 0, 1) := by decide +kernel
theorem dX6_init_84 : decode cX6_init 84 = .ok (.bipush 11, 2) := by decide +kernel
theorem dX6_init_86 : decode cX6_init 86 = .ok (.newarray .long, 2) := by decide +kernel
theorem dX6_init_88 : decode cX6_init 88 = .ok (.putfield 41, 3) := by decide +kernel
theorem dX6_init_91 : decode cX6_init 91 = .ok (.aload_n 0, 1) := by decide +kernel
theorem dX6_init_92 : decode cX6_init 92 = .ok (.bipush 10, 2) := by decide +kernel
theorem dX6_init_94 : decode cX6_init 94 = .ok (.newarray .long, 2) := by decide +kernel
theorem dX6_init_96 : decode cX6_init 96 = .ok (.putfield 44, 3) := by decide +kernel
theorem dX6_init_99 : decode cX6_init 99 = .ok (.aload_n 0, 1) := by decide +kernel
theorem dX6_init_100 : decode cX6_init 100 = .ok (.bipush 10, 2) := by decide +kernel
theorem dX6_init_102 : decode cX6_init 102 = .ok (.newarray .long, 2) := by decide +kernel
theorem dX6_init_104 : decode cX6_init 104 = .ok (.putfield 47, 3) := by decide +kernel
theorem dX6_init_107 : decode cX6_init 107 = .ok (.aload_n 0, 1) := by decide +kernel
theorem dX6_init_108 : decode cX6_init 108 = .ok (.bipush 10, 2) := by decide +kernel
theorem dX6_init_110 : decode cX6_init 110 = .ok (.newarray .int, 2) := by decide +kernel
theorem dX6_init_112 : decode cX6_init 112 = .ok (.putfield 50, 3) := by decide +kernel
theorem dX6_init_115 : decode cX6_init 115 = .ok (.aload_n 0, 1) := by decide +kernel
theorem dX6_init_116 : decode cX6_init 116 = .ok (.bipush 10, 2) := by decide +kernel
theorem dX6_init_118 : decode cX6_init 118 = .ok (.newarray .int, 2) := by decide +kernel
theorem dX6_init_120 : decode cX6_init 120 = .ok (.putfield 53, 3) := by decide +kernel
theorem dX6_init_123 : decode cX6_init 123 = .ok (.aload_n 0, 1) := by decide +kernel
theorem dX6_init_124 : decode cX6_init 124 = .ok (.bipush 20, 2) := by decide +kernel
theorem dX6_init_126 : decode cX6_init 126 = .ok (.newarray .int, 2) := by decide +kernel
theorem dX6_init_128 : decode cX6_init 128 = .ok (.putfield 56, 3) := by decide +kernel
theorem dX6_init_131 : decode cX6_init 131 = .ok (.aload_n 0, 1) := by decide +kernel
theorem dX6_init_132 : decode cX6_init 132 = .ok (.bipush 20, 2) := by decide +kernel
theorem dX6_init_134 : decode cX6_init 134 = .ok (.newarray .int, 2) := by decide +kernel
theorem dX6_init_136 : decode cX6_init 136 = .ok (.putfield 59, 3) := by decide +kernel
theorem dX6_init_139 : decode cX6_init 139 = .ok (.aload_n 0, 1) := by decide +kernel
theorem dX6_init_140 : decode cX6_init 140 = .ok (.bipush 20, 2) := by decide +kernel
theorem dX6_init_142 : decode cX6_init 142 = .ok (.newarray .int, 2) := by decide +kernel
theorem dX6_init_144 : decode cX6_init 144 = .ok (.putfield 62, 3) := by decide +kernel
theorem dX6_init_147 : decode cX6_init 147 = .ok (.iconst 0, 1) := by decide +kernel
theorem dX6_init_148 : decode cX6_init 148 = .ok (.istore_n 1, 1) := by decide +kernel
theorem dX6_init_149 : decode cX6_init 149 = .ok (.iload_n 1, 1) := by decide +kernel
theorem dX6_init_150 : decode cX6_init 150 = .ok (.iconst 4, 1) := by decide +kernel
theorem dX6_init_151 : decode cX6_init 151 = .ok (.if_icmp .ge 16, 3) := by decide +kernel
theorem dX6_init_154 : decode cX6_init 154 = .ok (.aload_n 0, 1) := by decide +kernel
theorem dX6_init_155 : decode cX6_init 155 = .ok (.getfield 7, 3) := by decide +kernel
theorem dX6_init_158 : decode cX6_init 158 = .ok (.iload_n 1, 1) := by decide +kernel
theorem dX6_init_159 : decode cX6_init 159 = .ok (.iconst 1, 1) := by decide +kernel
theorem dX6_init_160 : decode cX6_init 160 = .ok (.iastore, 1) := by decide +kernel
theorem dX6_init_161 : decode cX6_init 161 = .ok (.iinc 1 1, 3) := by decide +kernel
theorem dX6_init_164 : decode cX6_init 164 = .ok (.goto (-15), 3) := by decide +kernel
theorem dX6_init_167 : decode cX6_init 167 = .ok (.return_, 1) := by decide +kernel
theorem dX6_in_0 : decode cX6_in 0 = .ok (.iload_n 0, 1) := by decide +kernel
theorem dX6_in_1 : decode cX6_in 1 = .ok (.iload_n 1, 1) := by decide +kernel
theorem dX6_in_2 : decode cX6_in 2 = .ok (.if_icmp .lt 12, 3) := by decide +kernel
theorem dX6_in_5 : decode cX6_in 5 = .ok (.iload_n 0, 1) := by decide +kernel
theorem dX6_in_6 : decode cX6_in 6 = .ok (.iload_n 2, 1) := by decide +kernel
theorem dX6_in_7 : decode cX6_in 7 = .ok (.if_icmp .gt 7, 3) := by decide +kernel
theorem dX6_in_10 : decode cX6_in 10 = .ok (.iconst 1, 1) := by decide +kernel
theorem dX6_in_11 : decode cX6_in 11 = .ok (.goto 4, 3) := by decide +kernel
theorem dX6_in_14 : decode cX6_in 14 = .ok (.iconst 0, 1) := by decide +kernel
theorem dX6_in_15 : decode cX6_in 15 = .ok (.ireturn, 1) := by decide +kernel
theorem dX6_isNet_0 : decode cX6_isNet 0 = .ok (.iload_n 0, 1) := by decide +kernel
theorem dX6_isNet_1 : decode cX6_isNet 1 = .ok (.iconst 0, 1) := by decide +kernel
theorem dX6_isNet_2 : decode cX6_isNet 2 = .ok (.iconst 3, 1) := by decide +kernel
theorem dX6_isNet_3 : decode cX6_isNet 3 = .ok (.invokestatic 65, 3) := by decide +kernel
theorem dX6_isNet_6 : decode cX6_isNet 6 = .ok (.ireturn, 1) := by decide +kernel
theorem dX6_isKnot_0 : decode cX6_isKnot 0 = .ok (.iload_n 1, 1) := by decide +kernel
theorem dX6_isKnot_1 : decode cX6_isKnot 1 = .ok (.invokestatic 69, 3) := by decide +kernel
theorem dX6_isKnot_4 : decode cX6_isKnot 4 = .ok (.ifCond .eq 23, 3) := by decide +kernel
theorem dX6_isKnot_7 : decode cX6_isKnot 7 = .ok (.iload_n 2, 1) := by decide +kernel
theorem dX6_isKnot_8 : decode cX6_isKnot 8 = .ok (.iconst 0, 1) := by decide +kernel
theorem dX6_isKnot_9 : decode cX6_isKnot 9 = .ok (.aload_n 0, 1) := by decide +kernel
theorem dX6_isKnot_10 : decode cX6_isKnot 10 = .ok (.getfield 7, 3) := by decide +kernel
theorem dX6_isKnot_13 : decode cX6_isKnot 13 = .ok (.iload_n 1, 1) := by decide +kernel
theorem dX6_isKnot_14 : decode cX6_isKnot 14 = .ok (.iaload, 1) := by decide +kernel
theorem dX6_isKnot_15 : decode cX6_isKnot 15 = .ok (.iconst 1, 1) := by decide +kernel
theorem dX6_isKnot_16 : decode cX6_isKnot 16 = .ok (.isub, 1) := by decide +kernel
theorem dX6_isKnot_17 : decode cX6_isKnot 17 = .ok (.invokestatic 65, 3) := by decide +kernel
theorem dX6_isKnot_20 : decode cX6_isKnot 20 = .ok (.ifCond .eq 7, 3) := by decide +kernel
theorem dX6_isKnot_23 : decode cX6_isKnot 23 = .ok (.iconst 1, 1) := by decide +kernel
theorem dX6_isKnot_24 : decode cX6_isKnot 24 = .ok (.goto 4, 3) := by decide +kernel
theorem dX6_isKnot_27 : decode cX6_isKnot 27 = .ok (.iconst 0, 1) := by decide +kernel
theorem dX6_isKnot_28 : decode cX6_isKnot 28 = .ok (.ireturn, 1) := by decide +kernel
theorem dX6_has_0 : decode cX6_has 0 = .ok (.aload_n 0, 1) := by decide +kernel
theorem dX6_has_1 : decode cX6_has 1 = .ok (.getfield 13, 3) := by decide +kernel
theorem dX6_has_4 : decode cX6_has 4 = .ok (.bipush 10, 2) := by decide +kernel
theorem dX6_has_6 : decode cX6_has 6 = .ok (.iload_n 1, 1) := by decide +kernel
theorem dX6_has_7 : decode cX6_has 7 = .ok (.imul, 1) := by decide +kernel
theorem dX6_has_8 : decode cX6_has 8 = .ok (.iload_n 2, 1) := by decide +kernel
theorem dX6_has_9 : decode cX6_has 9 = .ok (.iadd, 1) := by decide +kernel
theorem dX6_has_10 : decode cX6_has 10 = .ok (.iaload, 1) := by decide +kernel
theorem dX6_has_11 : decode cX6_has 11 = .ok (.iload_n 3, 1) := by decide +kernel
theorem dX6_has_12 : decode cX6_has 12 = .ok (.ishr, 1) := by decide +kernel
theorem dX6_has_13 : decode cX6_has 13 = .ok (.iconst 1, 1) := by decide +kernel
theorem dX6_has_14 : decode cX6_has 14 = .ok (.iand, 1) := by decide +kernel
theorem dX6_has_15 : decode cX6_has 15 = .ok (.iconst 1, 1) := by decide +kernel
theorem dX6_has_16 : decode cX6_has 16 = .ok (.if_icmp .ne 7, 3) := by decide +kernel
theorem dX6_has_19 : decode cX6_has 19 = .ok (.iconst 1, 1) := by decide +kernel
theorem dX6_has_20 : decode cX6_has 20 = .ok (.goto 4, 3) := by decide +kernel
theorem dX6_has_23 : decode cX6_has 23 = .ok (.iconst 0, 1) := by decide +kernel
theorem dX6_has_24 : decode cX6_has 24 = .ok (.ireturn, 1) := by decide +kernel
theorem dX6_put_0 : decode cX6_put 0 = .ok (.aload_n 0, 1) := by decide +kernel
theorem dX6_put_1 : decode cX6_put 1 = .ok (.getfield 13, 3) := by decide +kernel
theorem dX6_put_4 : decode cX6_put 4 = .ok (.bipush 10, 2) := by decide +kernel
theorem dX6_put_6 : decode cX6_put 6 = .ok (.iload_n 1, 1) := by decide +kernel
theorem dX6_put_7 : decode cX6_put 7 = .ok (.imul, 1) := by decide +kernel
theorem dX6_put_8 : decode cX6_put 8 = .ok (.iload_n 2, 1) := by decide +kernel
theorem dX6_put_9 : decode cX6_put 9 = .ok (.iadd, 1) := by decide +kernel
theorem dX6_put_10 : decode cX6_put 10 = .ok (.dup2, 1) := by decide +kernel
theorem dX6_put_11 : decode cX6_put 11 = .ok (.iaload, 1) := by decide +kernel
theorem dX6_put_12 : decode cX6_put 12 = .ok (.iconst 1, 1) := by decide +kernel
theorem dX6_put_13 : decode cX6_put 13 = .ok (.iload_n 3, 1) := by decide +kernel
theorem dX6_put_14 : decode cX6_put 14 = .ok (.ishl, 1) := by decide +kernel
theorem dX6_put_15 : decode cX6_put 15 = .ok (.ior, 1) := by decide +kernel
theorem dX6_put_16 : decode cX6_put 16 = .ok (.iastore, 1) := by decide +kernel
theorem dX6_put_17 : decode cX6_put 17 = .ok (.aload_n 0, 1) := by decide +kernel
theorem dX6_put_18 : decode cX6_put 18 = .ok (.getfield 13, 3) := by decide +kernel
theorem dX6_put_21 : decode cX6_put 21 = .ok (.bipush 10, 2) := by decide +kernel
theorem dX6_put_23 : decode cX6_put 23 = .ok (.iload_n 1, 1) := by decide +kernel
theorem dX6_put_24 : decode cX6_put 24 = .ok (.imul, 1) := by decide +kernel
theorem dX6_put_25 : decode cX6_put 25 = .ok (.iload_n 3, 1) := by decide +kernel
theorem dX6_put_26 : decode cX6_put 26 = .ok (.iadd, 1) := by decide +kernel
theorem dX6_put_27 : decode cX6_put 27 = .ok (.dup2, 1) := by decide +kernel
theorem dX6_put_28 : decode cX6_put 28 = .ok (.iaload, 1) := by decide +kernel
theorem dX6_put_29 : decode cX6_put 29 = .ok (.iconst 1, 1) := by decide +kernel
theorem dX6_put_30 : decode cX6_put 30 = .ok (.iload_n 2, 1) := by decide +kernel
theorem dX6_put_31 : decode cX6_put 31 = .ok (.ishl, 1) := by decide +kernel
theorem dX6_put_32 : decode cX6_put 32 = .ok (.ior, 1) := by decide +kernel
theorem dX6_put_33 : decode cX6_put 33 = .ok (.iastore, 1) := by decide +kernel
theorem dX6_put_34 : decode cX6_put 34 = .ok (.return_, 1) := by decide +kernel
theorem dX6_begin_0 : decode cX6_begin 0 = .ok (.aload_n 0, 1) := by decide +kernel
theorem dX6_begin_1 : decode cX6_begin 1 = .ok (.getfield 7, 3) := by decide +kernel
theorem dX6_begin_4 : decode cX6_begin 4 = .ok (.iload_n 1, 1) := by decide +kernel
theorem dX6_begin_5 : decode cX6_begin 5 = .ok (.iload_n 2, 1) := by decide +kernel
theorem dX6_begin_6 : decode cX6_begin 6 = .ok (.iastore, 1) := by decide +kernel
theorem dX6_begin_7 : decode cX6_begin 7 = .ok (.iconst 0, 1) := by decide +kernel
theorem dX6_begin_8 : decode cX6_begin 8 = .ok (.istore_n 3, 1) := by decide +kernel
theorem dX6_begin_9 : decode cX6_begin 9 = .ok (.iload_n 3, 1) := by decide +kernel
theorem dX6_begin_10 : decode cX6_begin 10 = .ok (.bipush 10, 2) := by decide +kernel
theorem dX6_begin_12 : decode cX6_begin 12 = .ok (.if_icmp .ge 21, 3) := by decide +kernel
theorem dX6_begin_15 : decode cX6_begin 15 = .ok (.aload_n 0, 1) := by decide +kernel
theorem dX6_begin_16 : decode cX6_begin 16 = .ok (.getfield 13, 3) := by decide +kernel
theorem dX6_begin_19 : decode cX6_begin 19 = .ok (.bipush 10, 2) := by decide +kernel
theorem dX6_begin_21 : decode cX6_begin 21 = .ok (.iload_n 1, 1) := by decide +kernel
theorem dX6_begin_22 : decode cX6_begin 22 = .ok (.imul, 1) := by decide +kernel
theorem dX6_begin_23 : decode cX6_begin 23 = .ok (.iload_n 3, 1) := by decide +kernel
theorem dX6_begin_24 : decode cX6_begin 24 = .ok (.iadd, 1) := by decide +kernel
theorem dX6_begin_25 : decode cX6_begin 25 = .ok (.iconst 0, 1) := by decide +kernel
theorem dX6_begin_26 : decode cX6_begin 26 = .ok (.iastore, 1) := by decide +kernel
theorem dX6_begin_27 : decode cX6_begin 27 = .ok (.iinc 3 1, 3) := by decide +kernel
theorem dX6_begin_30 : decode cX6_begin 30 = .ok (.goto (-21), 3) := by decide +kernel
theorem dX6_begin_33 : decode cX6_begin 33 = .ok (.return_, 1) := by decide +kernel
theorem dX6_lines_0 : decode cX6_lines 0 = .ok (.iconst 0, 1) := by decide +kernel
theorem dX6_lines_1 : decode cX6_lines 1 = .ok (.istore_n 2, 1) := by decide +kernel
theorem dX6_lines_2 : decode cX6_lines 2 = .ok (.iconst 0, 1) := by decide +kernel
theorem dX6_lines_3 : decode cX6_lines 3 = .ok (.istore_n 3, 1) := by decide +kernel
theorem dX6_lines_4 : decode cX6_lines 4 = .ok (.iload_n 3, 1) := by decide +kernel
theorem dX6_lines_5 : decode cX6_lines 5 = .ok (.aload_n 0, 1) := by decide +kernel
theorem dX6_lines_6 : decode cX6_lines 6 = .ok (.getfield 7, 3) := by decide +kernel
theorem dX6_lines_9 : decode cX6_lines 9 = .ok (.iload_n 1, 1) := by decide +kernel
theorem dX6_lines_10 : decode cX6_lines 10 = .ok (.iaload, 1) := by decide +kernel
theorem dX6_lines_11 : decode cX6_lines 11 = .ok (.if_icmp .ge 26, 3) := by decide +kernel
theorem dX6_lines_14 : decode cX6_lines 14 = .ok (.iload_n 2, 1) := by decide +kernel
theorem dX6_lines_15 : decode cX6_lines 15 = .ok (.aload_n 0, 1) := by decide +kernel
theorem dX6_lines_16 : decode cX6_lines 16 = .ok (.getfield 13, 3) := by decide +kernel
theorem dX6_lines_19 : decode cX6_lines 19 = .ok (.bipush 10, 2) := by decide +kernel
theorem dX6_lines_21 : decode cX6_lines 21 = .ok (.iload_n 1, 1) := by decide +kernel
theorem dX6_lines_22 : decode cX6_lines 22 = .ok (.imul, 1) := by decide +kernel
theorem dX6_lines_23 : decode cX6_lines 23 = .ok (.iload_n 3, 1) := by decide +kernel
theorem dX6_lines_24 : decode cX6_lines 24 = .ok (.iadd, 1) := by decide +kernel
theorem dX6_lines_25 : decode cX6_lines 25 = .ok (.iaload, 1) := by decide +kernel
theorem dX6_lines_26 : decode cX6_lines 26 = .ok (.invokestatic 73, 3) := by decide +kernel
theorem dX6_lines_29 : decode cX6_lines 29 = .ok (.iadd, 1) := by decide +kernel
theorem dX6_lines_30 : decode cX6_lines 30 = .ok (.istore_n 2, 1) := by decide +kernel
theorem dX6_lines_31 : decode cX6_lines 31 = .ok (.iinc 3 1, 3) := by decide +kernel
theorem dX6_lines_34 : decode cX6_lines 34 = .ok (.goto (-30), 3) := by decide +kernel
theorem dX6_lines_37 : decode cX6_lines 37 = .ok (.iload_n 2, 1) := by decide +kernel
theorem dX6_lines_38 : decode cX6_lines 38 = .ok (.iconst 2, 1) := by decide +kernel
theorem dX6_lines_39 : decode cX6_lines 39 = .ok (.idiv, 1) := by decide +kernel
theorem dX6_lines_40 : decode cX6_lines 40 = .ok (.ireturn, 1) := by decide +kernel
theorem dX6_bits_0 : decode cX6_bits 0 = .ok (.iconst 0, 1) := by decide +kernel
theorem dX6_bits_1 : decode cX6_bits 1 = .ok (.istore_n 1, 1) := by decide +kernel
theorem dX6_bits_2 : decode cX6_bits 2 = .ok (.iconst 0, 1) := by decide +kernel
theorem dX6_bits_3 : decode cX6_bits 3 = .ok (.istore_n 2, 1) := by decide +kernel
theorem dX6_bits_4 : decode cX6_bits 4 = .ok (.iload_n 2, 1) := by decide +kernel
theorem dX6_bits_5 : decode cX6_bits 5 = .ok (.bipush 10, 2) := by decide +kernel
theorem dX6_bits_7 : decode cX6_bits 7 = .ok (.if_icmp .ge 17, 3) := by decide +kernel
theorem dX6_bits_10 : decode cX6_bits 10 = .ok (.iload_n 1, 1) := by decide +kernel
theorem dX6_bits_11 : decode cX6_bits 11 = .ok (.iload_n 0, 1) := by decide +kernel
theorem dX6_bits_12 : decode cX6_bits 12 = .ok (.iload_n 2, 1) := by decide +kernel
theorem dX6_bits_13 : decode cX6_bits 13 = .ok (.ishr, 1) := by decide +kernel
theorem dX6_bits_14 : decode cX6_bits 14 = .ok (.iconst 1, 1) := by decide +kernel
theorem dX6_bits_15 : decode cX6_bits 15 = .ok (.iand, 1) := by decide +kernel
theorem dX6_bits_16 : decode cX6_bits 16 = .ok (.iadd, 1) := by decide +kernel
theorem dX6_bits_17 : decode cX6_bits 17 = .ok (.istore_n 1, 1) := by decide +kernel
theorem dX6_bits_18 : decode cX6_bits 18 = .ok (.iinc 2 1, 3) := by decide +kernel
theorem dX6_bits_21 : decode cX6_bits 21 = .ok (.goto (-17), 3) := by decide +kernel
theorem dX6_bits_24 : decode cX6_bits 24 = .ok (.iload_n 1, 1) := by decide +kernel
theorem dX6_bits_25 : decode cX6_bits 25 = .ok (.ireturn, 1) := by decide +kernel
theorem dX6_net_0 : decode cX6_net 0 = .ok (.iload_n 1, 1) := by decide +kernel
theorem dX6_net_1 : decode cX6_net 1 = .ok (.invokestatic 69, 3) := by decide +kernel
theorem dX6_net_4 : decode cX6_net 4 = .ok (.ifCond .eq 13, 3) := by decide +kernel
theorem dX6_net_7 : decode cX6_net 7 = .ok (.iload_n 2, 1) := by decide +kernel
theorem dX6_net_8 : decode cX6_net 8 = .ok (.iconst 1, 1) := by decide +kernel
theorem dX6_net_9 : decode cX6_net 9 = .ok (.bipush 10, 2) := by decide +kernel
theorem dX6_net_11 : decode cX6_net 11 = .ok (.invokestatic 65, 3) := by decide +kernel
theorem dX6_net_14 : decode cX6_net 14 = .ok (.ifCond .ne 6, 3) := by decide +kernel
theorem dX6_net_17 : decode cX6_net 17 = .ok (.bipush (-2), 2) := by decide +kernel
theorem dX6_net_19 : decode cX6_net 19 = .ok (.ireturn, 1) := by decide +kernel
theorem dX6_net_20 : decode cX6_net 20 = .ok (.aload_n 0, 1) := by decide +kernel
theorem dX6_net_21 : decode cX6_net 21 = .ok (.iload_n 1, 1) := by decide +kernel
theorem dX6_net_22 : decode cX6_net 22 = .ok (.iload_n 2, 1) := by decide +kernel
theorem dX6_net_23 : decode cX6_net 23 = .ok (.invokevirtual 77, 3) := by decide +kernel
theorem dX6_net_26 : decode cX6_net 26 = .ok (.iconst 1, 1) := by decide +kernel
theorem dX6_net_27 : decode cX6_net 27 = .ok (.ireturn, 1) := by decide +kernel
theorem dX6_line_0 : decode cX6_line 0 = .ok (.aload_n 0, 1) := by decide +kernel
theorem dX6_line_1 : decode cX6_line 1 = .ok (.iload_n 1, 1) := by decide +kernel
theorem dX6_line_2 : decode cX6_line 2 = .ok (.iload_n 2, 1) := by decide +kernel
theorem dX6_line_3 : decode cX6_line 3 = .ok (.invokevirtual 81, 3) := by decide +kernel
theorem dX6_line_6 : decode cX6_line 6 = .ok (.ifCond .eq 17, 3) := by decide +kernel
theorem dX6_line_9 : decode cX6_line 9 = .ok (.aload_n 0, 1) := by decide +kernel
theorem dX6_line_10 : decode cX6_line 10 = .ok (.iload_n 1, 1) := by decide +kernel
theorem dX6_line_11 : decode cX6_line 11 = .ok (.iload_n 3, 1) := by decide +kernel
theorem dX6_line_12 : decode cX6_line 12 = .ok (.invokevirtual 81, 3) := by decide +kernel
theorem dX6_line_15 : decode cX6_line 15 = .ok (.ifCond .eq 8, 3) := by decide +kernel
theorem dX6_line_18 : decode cX6_line 18 = .ok (.iload_n 2, 1) := by decide +kernel
theorem dX6_line_19 : decode cX6_line 19 = .ok (.iload_n 3, 1) := by decide +kernel
theorem dX6_line_20 : decode cX6_line 20 = .ok (.if_icmp .ne 6, 3) := by decide +kernel
theorem dX6_line_23 : decode cX6_line 23 = .ok (.bipush (-2), 2) := by decide +kernel
theorem dX6_line_25 : decode cX6_line 25 = .ok (.ireturn, 1) := by decide +kernel
theorem dX6_line_26 : decode cX6_line 26 = .ok (.aload_n 0, 1) := by decide +kernel
theorem dX6_line_27 : decode cX6_line 27 = .ok (.iload_n 1, 1) := by decide +kernel
theorem dX6_line_28 : decode cX6_line 28 = .ok (.iload_n 2, 1) := by decide +kernel
theorem dX6_line_29 : decode cX6_line 29 = .ok (.iload_n 3, 1) := by decide +kernel
theorem dX6_line_30 : decode cX6_line 30 = .ok (.invokevirtual 85, 3) := by decide +kernel
theorem dX6_line_33 : decode cX6_line 33 = .ok (.iload 4, 2) := by decide +kernel
theorem dX6_line_35 : decode cX6_line 35 = .ok (.if_icmp .ne 6, 3) := by decide +kernel
theorem dX6_line_38 : decode cX6_line 38 = .ok (.bipush (-3), 2) := by decide +kernel
theorem dX6_line_40 : decode cX6_line 40 = .ok (.ireturn, 1) := by decide +kernel
theorem dX6_line_41 : decode cX6_line 41 = .ok (.aload_n 0, 1) := by decide +kernel
theorem dX6_line_42 : decode cX6_line 42 = .ok (.getfield 13, 3) := by decide +kernel
theorem dX6_line_45 : decode cX6_line 45 = .ok (.bipush 10, 2) := by decide +kernel
theorem dX6_line_47 : decode cX6_line 47 = .ok (.iload_n 1, 1) := by decide +kernel
theorem dX6_line_48 : decode cX6_line 48 = .ok (.imul, 1) := by decide +kernel
theorem dX6_line_49 : decode cX6_line 49 = .ok (.iload_n 2, 1) := by decide +kernel
theorem dX6_line_50 : decode cX6_line 50 = .ok (.iadd, 1) := by decide +kernel
theorem dX6_line_51 : decode cX6_line 51 = .ok (.dup2, 1) := by decide +kernel
theorem dX6_line_52 : decode cX6_line 52 = .ok (.iaload, 1) := by decide +kernel
theorem dX6_line_53 : decode cX6_line 53 = .ok (.iconst 1, 1) := by decide +kernel
theorem dX6_line_54 : decode cX6_line 54 = .ok (.iload_n 3, 1) := by decide +kernel
theorem dX6_line_55 : decode cX6_line 55 = .ok (.ishl, 1) := by decide +kernel
theorem dX6_line_56 : decode cX6_line 56 = .ok (.ixor, 1) := by decide +kernel
theorem dX6_line_57 : decode cX6_line 57 = .ok (.iastore, 1) := by decide +kernel
theorem dX6_line_58 : decode cX6_line 58 = .ok (.aload_n 0, 1) := by decide +kernel
theorem dX6_line_59 : decode cX6_line 59 = .ok (.getfield 13, 3) := by decide +kernel
theorem dX6_line_62 : decode cX6_line 62 = .ok (.bipush 10, 2) := by decide +kernel
theorem dX6_line_64 : decode cX6_line 64 = .ok (.iload_n 1, 1) := by decide +kernel
theorem dX6_line_65 : decode cX6_line 65 = .ok (.imul, 1) := by decide +kernel
theorem dX6_line_66 : decode cX6_line 66 = .ok (.iload_n 3, 1) := by decide +kernel
theorem dX6_line_67 : decode cX6_line 67 = .ok (.iadd, 1) := by decide +kernel
theorem dX6_line_68 : decode cX6_line 68 = .ok (.dup2, 1) := by decide +kernel
theorem dX6_line_69 : decode cX6_line 69 = .ok (.iaload, 1) := by decide +kernel
theorem dX6_line_70 : decode cX6_line 70 = .ok (.iconst 1, 1) := by decide +kernel
theorem dX6_line_71 : decode cX6_line 71 = .ok (.iload_n 2, 1) := by decide +kernel
theorem dX6_line_72 : decode cX6_line 72 = .ok (.ishl, 1) := by decide +kernel
theorem dX6_line_73 : decode cX6_line 73 = .ok (.ixor, 1) := by decide +kernel
theorem dX6_line_74 : decode cX6_line 74 = .ok (.iastore, 1) := by decide +kernel
theorem dX6_line_75 : decode cX6_line 75 = .ok (.iconst 1, 1) := by decide +kernel
theorem dX6_line_76 : decode cX6_line 76 = .ok (.ireturn, 1) := by decide +kernel
theorem dX6_ring_0 : decode cX6_ring 0 = .ok (.iload_n 1, 1) := by decide +kernel
theorem dX6_ring_1 : decode cX6_ring 1 = .ok (.invokestatic 69, 3) := by decide +kernel
theorem dX6_ring_4 : decode cX6_ring 4 = .ok (.ifCond .eq 28, 3) := by decide +kernel
theorem dX6_ring_7 : decode cX6_ring 7 = .ok (.iload_n 2, 1) := by decide +kernel
theorem dX6_ring_8 : decode cX6_ring 8 = .ok (.iconst 1, 1) := by decide +kernel
theorem dX6_ring_9 : decode cX6_ring 9 = .ok (.bipush 10, 2) := by decide +kernel
theorem dX6_ring_11 : decode cX6_ring 11 = .ok (.invokestatic 65, 3) := by decide +kernel
theorem dX6_ring_14 : decode cX6_ring 14 = .ok (.ifCond .eq 18, 3) := by decide +kernel
theorem dX6_ring_17 : decode cX6_ring 17 = .ok (.iload_n 3, 1) := by decide +kernel
theorem dX6_ring_18 : decode cX6_ring 18 = .ok (.iconst 0, 1) := by decide +kernel
theorem dX6_ring_19 : decode cX6_ring 19 = .ok (.iconst 1, 1) := by decide +kernel
theorem dX6_ring_20 : decode cX6_ring 20 = .ok (.iload_n 2, 1) := by decide +kernel
theorem dX6_ring_21 : decode cX6_ring 21 = .ok (.iconst 2, 1) := by decide +kernel
theorem dX6_ring_22 : decode cX6_ring 22 = .ok (.idiv, 1) := by decide +kernel
theorem dX6_ring_23 : decode cX6_ring 23 = .ok (.ishl, 1) := by decide +kernel
theorem dX6_ring_24 : decode cX6_ring 24 = .ok (.iconst 1, 1) := by decide +kernel
theorem dX6_ring_25 : decode cX6_ring 25 = .ok (.isub, 1) := by decide +kernel
theorem dX6_ring_26 : decode cX6_ring 26 = .ok (.invokestatic 65, 3) := by decide +kernel
theorem dX6_ring_29 : decode cX6_ring 29 = .ok (.ifCond .ne 6, 3) := by decide +kernel
theorem dX6_ring_32 : decode cX6_ring 32 = .ok (.bipush (-2), 2) := by decide +kernel
theorem dX6_ring_34 : decode cX6_ring 34 = .ok (.ireturn, 1) := by decide +kernel
theorem dX6_ring_35 : decode cX6_ring 35 = .ok (.aload_n 0, 1) := by decide +kernel
theorem dX6_ring_36 : decode cX6_ring 36 = .ok (.iload_n 1, 1) := by decide +kernel
theorem dX6_ring_37 : decode cX6_ring 37 = .ok (.iload_n 2, 1) := by decide +kernel
theorem dX6_ring_38 : decode cX6_ring 38 = .ok (.invokevirtual 77, 3) := by decide +kernel
theorem dX6_ring_41 : decode cX6_ring 41 = .ok (.iconst 1, 1) := by decide +kernel
theorem dX6_ring_42 : decode cX6_ring 42 = .ok (.istore 4, 2) := by decide +kernel
theorem dX6_ring_44 : decode cX6_ring 44 = .ok (.iload 4, 2) := by decide +kernel
theorem dX6_ring_46 : decode cX6_ring 46 = .ok (.iload_n 2, 1) := by decide +kernel
theorem dX6_ring_47 : decode cX6_ring 47 = .ok (.iconst 2, 1) := by decide +kernel
theorem dX6_ring_48 : decode cX6_ring 48 = .ok (.idiv, 1) := by decide +kernel
theorem dX6_ring_49 : decode cX6_ring 49 = .ok (.if_icmp .gt 50, 3) := by decide +kernel
theorem dX6_ring_52 : decode cX6_ring 52 = .ok (.iconst 0, 1) := by decide +kernel
theorem dX6_ring_53 : decode cX6_ring 53 = .ok (.istore 5, 2) := by decide +kernel
theorem dX6_ring_55 : decode cX6_ring 55 = .ok (.iload 5, 2) := by decide +kernel
theorem dX6_ring_57 : decode cX6_ring 57 = .ok (.iload_n 2, 1) := by decide +kernel
theorem dX6_ring_58 : decode cX6_ring 58 = .ok (.if_icmp .ge 35, 3) := by decide +kernel
theorem dX6_ring_61 : decode cX6_ring 61 = .ok (.iload_n 3, 1) := by decide +kernel
theorem dX6_ring_62 : decode cX6_ring 62 = .ok (.iload 4, 2) := by decide +kernel
theorem dX6_ring_64 : decode cX6_ring 64 = .ok (.iconst 1, 1) := by decide +kernel
theorem dX6_ring_65 : decode cX6_ring 65 = .ok (.isub, 1) := by decide +kernel
theorem dX6_ring_66 : decode cX6_ring 66 = .ok (.ishr, 1) := by decide +kernel
theorem dX6_ring_67 : decode cX6_ring 67 = .ok (.iconst 1, 1) := by decide +kernel
theorem dX6_ring_68 : decode cX6_ring 68 = .ok (.iand, 1) := by decide +kernel
theorem dX6_ring_69 : decode cX6_ring 69 = .ok (.iconst 1, 1) := by decide +kernel
theorem dX6_ring_70 : decode cX6_ring 70 = .ok (.if_icmp .ne 23, 3) := by decide +kernel
theorem dX6_ring_73 : decode cX6_ring 73 = .ok (.aload_n 0, 1) := by decide +kernel
theorem dX6_ring_74 : decode cX6_ring 74 = .ok (.iload_n 1, 1) := by decide +kernel
theorem dX6_ring_75 : decode cX6_ring 75 = .ok (.iload 5, 2) := by decide +kernel
theorem dX6_ring_77 : decode cX6_ring 77 = .ok (.iload 5, 2) := by decide +kernel
theorem dX6_ring_79 : decode cX6_ring 79 = .ok (.iload 4, 2) := by decide +kernel
theorem dX6_ring_81 : decode cX6_ring 81 = .ok (.iadd, 1) := by decide +kernel
theorem dX6_ring_82 : decode cX6_ring 82 = .ok (.iload_n 2, 1) := by decide +kernel
theorem dX6_ring_83 : decode cX6_ring 83 = .ok (.irem, 1) := by decide +kernel
theorem dX6_ring_84 : decode cX6_ring 84 = .ok (.invokevirtual 88, 3) := by decide +kernel
theorem dX6_ring_87 : decode cX6_ring 87 = .ok (.iinc 5 1, 3) := by decide +kernel
theorem dX6_ring_90 : decode cX6_ring 90 = .ok (.goto (-35), 3) := by decide +kernel
theorem dX6_ring_93 : decode cX6_ring 93 = .ok (.iinc 4 1, 3) := by decide +kernel
theorem dX6_ring_96 : decode cX6_ring 96 = .ok (.goto (-52), 3) := by decide +kernel
theorem dX6_ring_99 : decode cX6_ring 99 = .ok (.aload_n 0, 1) := by decide +kernel
theorem dX6_ring_100 : decode cX6_ring 100 = .ok (.iload_n 1, 1) := by decide +kernel
theorem dX6_ring_101 : decode cX6_ring 101 = .ok (.invokevirtual 92, 3) := by decide +kernel
theorem dX6_ring_104 : decode cX6_ring 104 = .ok (.ireturn, 1) := by decide +kernel
theorem dX6_product_0 : decode cX6_product 0 = .ok (.iload_n 1, 1) := by decide +kernel
theorem dX6_product_1 : decode cX6_product 1 = .ok (.invokestatic 69, 3) := by decide +kernel
theorem dX6_product_4 : decode cX6_product 4 = .ok (.ifCond .eq 17, 3) := by decide +kernel
theorem dX6_product_7 : decode cX6_product 7 = .ok (.iload_n 2, 1) := by decide +kernel
theorem dX6_product_8 : decode cX6_product 8 = .ok (.invokestatic 69, 3) := by decide +kernel
theorem dX6_product_11 : decode cX6_product 11 = .ok (.ifCond .eq 10, 3) := by decide +kernel
theorem dX6_product_14 : decode cX6_product 14 = .ok (.iload_n 3, 1) := by decide +kernel
theorem dX6_product_15 : decode cX6_product 15 = .ok (.invokestatic 69, 3) := by decide +kernel
theorem dX6_product_18 : decode cX6_product 18 = .ok (.ifCond .ne 6, 3) := by decide +kernel
theorem dX6_product_21 : decode cX6_product 21 = .ok (.bipush (-2), 2) := by decide +kernel
theorem dX6_product_23 : decode cX6_product 23 = .ok (.ireturn, 1) := by decide +kernel
theorem dX6_product_24 : decode cX6_product 24 = .ok (.aload_n 0, 1) := by decide +kernel
theorem dX6_product_25 : decode cX6_product 25 = .ok (.getfield 7, 3) := by decide +kernel
theorem dX6_product_28 : decode cX6_product 28 = .ok (.iload_n 1, 1) := by decide +kernel
theorem dX6_product_29 : decode cX6_product 29 = .ok (.iaload, 1) := by decide +kernel
theorem dX6_product_30 : decode cX6_product 30 = .ok (.istore 4, 2) := by decide +kernel
end
section
theorem dX6_product_32 : decode cX6_product 32 = .ok (.aload_n 0, 1) := by decide +kernel
theorem dX6_product_33 : decode cX6_product 33 = .ok (.getfield 7, 3) := by decide +kernel
theorem dX6_product_36 : decode cX6_product 36 = .ok (.iload_n 2, 1) := by decide +kernel
theorem dX6_product_37 : decode cX6_product 37 = .ok (.iaload, 1) := by decide +kernel
theorem dX6_product_38 : decode cX6_product 38 = .ok (.istore 5, 2) := by decide +kernel
theorem dX6_product_40 : decode cX6_product 40 = .ok (.iload 4, 2) := by decide +kernel
theorem dX6_product_42 : decode cX6_product 42 = .ok (.iload 5, 2) := by decide +kernel
theorem dX6_product_44 : decode cX6_product 44 = .ok (.imul, 1) := by decide +kernel
theorem dX6_product_45 : decode cX6_product 45 = .ok (.bipush 10, 2) := by decide +kernel
theorem dX6_product_47 : decode cX6_product 47 = .ok (.if_icmp .le 6, 3) := by decide +kernel
theorem dX6_product_50 : decode cX6_product 50 = .ok (.bipush (-3), 2) := by decide +kernel
theorem dX6_product_52 : decode cX6_product 52 = .ok (.ireturn, 1) := by decide +kernel
theorem dX6_product_53 : decode cX6_product 53 = .ok (.iconst 0, 1) := by decide +kernel
theorem dX6_product_54 : decode cX6_product 54 = .ok (.istore 6, 2) := by decide +kernel
theorem dX6_product_56 : decode cX6_product 56 = .ok (.iload 6, 2) := by decide +kernel
theorem dX6_product_58 : decode cX6_product 58 = .ok (.bipush 10, 2) := by decide +kernel
theorem dX6_product_60 : decode cX6_product 60 = .ok (.if_icmp .ge 47, 3) := by decide +kernel
theorem dX6_product_63 : decode cX6_product 63 = .ok (.aload_n 0, 1) := by decide +kernel
theorem dX6_product_64 : decode cX6_product 64 = .ok (.getfield 16, 3) := by decide +kernel
theorem dX6_product_67 : decode cX6_product 67 = .ok (.iload 6, 2) := by decide +kernel
theorem dX6_product_69 : decode cX6_product 69 = .ok (.aload_n 0, 1) := by decide +kernel
theorem dX6_product_70 : decode cX6_product 70 = .ok (.getfield 13, 3) := by decide +kernel
theorem dX6_product_73 : decode cX6_product 73 = .ok (.bipush 10, 2) := by decide +kernel
theorem dX6_product_75 : decode cX6_product 75 = .ok (.iload_n 1, 1) := by decide +kernel
theorem dX6_product_76 : decode cX6_product 76 = .ok (.imul, 1) := by decide +kernel
theorem dX6_product_77 : decode cX6_product 77 = .ok (.iload 6, 2) := by decide +kernel
theorem dX6_product_79 : decode cX6_product 79 = .ok (.iadd, 1) := by decide +kernel
theorem dX6_product_80 : decode cX6_product 80 = .ok (.iaload, 1) := by decide +kernel
theorem dX6_product_81 : decode cX6_product 81 = .ok (.iastore, 1) := by decide +kernel
theorem dX6_product_82 : decode cX6_product 82 = .ok (.aload_n 0, 1) := by decide +kernel
theorem dX6_product_83 : decode cX6_product 83 = .ok (.getfield 19, 3) := by decide +kernel
theorem dX6_product_86 : decode cX6_product 86 = .ok (.iload 6, 2) := by decide +kernel
theorem dX6_product_88 : decode cX6_product 88 = .ok (.aload_n 0, 1) := by decide +kernel
theorem dX6_product_89 : decode cX6_product 89 = .ok (.getfield 13, 3) := by decide +kernel
theorem dX6_product_92 : decode cX6_product 92 = .ok (.bipush 10, 2) := by decide +kernel
theorem dX6_product_94 : decode cX6_product 94 = .ok (.iload_n 2, 1) := by decide +kernel
theorem dX6_product_95 : decode cX6_product 95 = .ok (.imul, 1) := by decide +kernel
theorem dX6_product_96 : decode cX6_product 96 = .ok (.iload 6, 2) := by decide +kernel
theorem dX6_product_98 : decode cX6_product 98 = .ok (.iadd, 1) := by decide +kernel
theorem dX6_product_99 : decode cX6_product 99 = .ok (.iaload, 1) := by decide +kernel
theorem dX6_product_100 : decode cX6_product 100 = .ok (.iastore, 1) := by decide +kernel
theorem dX6_product_101 : decode cX6_product 101 = .ok (.iinc 6 1, 3) := by decide +kernel
theorem dX6_product_104 : decode cX6_product 104 = .ok (.goto (-48), 3) := by decide +kernel
theorem dX6_product_107 : decode cX6_product 107 = .ok (.aload_n 0, 1) := by decide +kernel
theorem dX6_product_108 : decode cX6_product 108 = .ok (.iload_n 3, 1) := by decide +kernel
theorem dX6_product_109 : decode cX6_product 109 = .ok (.iload 4, 2) := by decide +kernel
theorem dX6_product_111 : decode cX6_product 111 = .ok (.iload 5, 2) := by decide +kernel
theorem dX6_product_113 : decode cX6_product 113 = .ok (.imul, 1) := by decide +kernel
theorem dX6_product_114 : decode cX6_product 114 = .ok (.invokevirtual 77, 3) := by decide +kernel
theorem dX6_product_117 : decode cX6_product 117 = .ok (.iconst 0, 1) := by decide +kernel
theorem dX6_product_118 : decode cX6_product 118 = .ok (.istore 6, 2) := by decide +kernel
theorem dX6_product_120 : decode cX6_product 120 = .ok (.iload 6, 2) := by decide +kernel
theorem dX6_product_122 : decode cX6_product 122 = .ok (.iload 4, 2) := by decide +kernel
theorem dX6_product_124 : decode cX6_product 124 = .ok (.iload 5, 2) := by decide +kernel
theorem dX6_product_126 : decode cX6_product 126 = .ok (.imul, 1) := by decide +kernel
theorem dX6_product_127 : decode cX6_product 127 = .ok (.if_icmp .ge 131, 3) := by decide +kernel
theorem dX6_product_130 : decode cX6_product 130 = .ok (.iconst 0, 1) := by decide +kernel
theorem dX6_product_131 : decode cX6_product 131 = .ok (.istore 7, 2) := by decide +kernel
theorem dX6_product_133 : decode cX6_product 133 = .ok (.iload 7, 2) := by decide +kernel
theorem dX6_product_135 : decode cX6_product 135 = .ok (.iload 4, 2) := by decide +kernel
theorem dX6_product_137 : decode cX6_product 137 = .ok (.iload 5, 2) := by decide +kernel
theorem dX6_product_139 : decode cX6_product 139 = .ok (.imul, 1) := by decide +kernel
theorem dX6_product_140 : decode cX6_product 140 = .ok (.if_icmp .ge 112, 3) := by decide +kernel
theorem dX6_product_143 : decode cX6_product 143 = .ok (.iload 6, 2) := by decide +kernel
theorem dX6_product_145 : decode cX6_product 145 = .ok (.iload 5, 2) := by decide +kernel
theorem dX6_product_147 : decode cX6_product 147 = .ok (.idiv, 1) := by decide +kernel
theorem dX6_product_148 : decode cX6_product 148 = .ok (.iload 7, 2) := by decide +kernel
theorem dX6_product_150 : decode cX6_product 150 = .ok (.iload 5, 2) := by decide +kernel
theorem dX6_product_152 : decode cX6_product 152 = .ok (.idiv, 1) := by decide +kernel
theorem dX6_product_153 : decode cX6_product 153 = .ok (.if_icmp .ne 29, 3) := by decide +kernel
theorem dX6_product_156 : decode cX6_product 156 = .ok (.aload_n 0, 1) := by decide +kernel
theorem dX6_product_157 : decode cX6_product 157 = .ok (.getfield 19, 3) := by decide +kernel
theorem dX6_product_160 : decode cX6_product 160 = .ok (.iload 6, 2) := by decide +kernel
theorem dX6_product_162 : decode cX6_product 162 = .ok (.iload 5, 2) := by decide +kernel
theorem dX6_product_164 : decode cX6_product 164 = .ok (.irem, 1) := by decide +kernel
theorem dX6_product_165 : decode cX6_product 165 = .ok (.iaload, 1) := by decide +kernel
theorem dX6_product_166 : decode cX6_product 166 = .ok (.iload 7, 2) := by decide +kernel
theorem dX6_product_168 : decode cX6_product 168 = .ok (.iload 5, 2) := by decide +kernel
theorem dX6_product_170 : decode cX6_product 170 = .ok (.irem, 1) := by decide +kernel
theorem dX6_product_171 : decode cX6_product 171 = .ok (.ishr, 1) := by decide +kernel
theorem dX6_product_172 : decode cX6_product 172 = .ok (.iconst 1, 1) := by decide +kernel
theorem dX6_product_173 : decode cX6_product 173 = .ok (.iand, 1) := by decide +kernel
theorem dX6_product_174 : decode cX6_product 174 = .ok (.iconst 1, 1) := by decide +kernel
theorem dX6_product_175 : decode cX6_product 175 = .ok (.if_icmp .ne 7, 3) := by decide +kernel
theorem dX6_product_178 : decode cX6_product 178 = .ok (.iconst 1, 1) := by decide +kernel
theorem dX6_product_179 : decode cX6_product 179 = .ok (.goto 4, 3) := by decide +kernel
theorem dX6_product_182 : decode cX6_product 182 = .ok (.iconst 0, 1) := by decide +kernel
theorem dX6_product_183 : decode cX6_product 183 = .ok (.istore 8, 2) := by decide +kernel
theorem dX6_product_185 : decode cX6_product 185 = .ok (.iload 6, 2) := by decide +kernel
theorem dX6_product_187 : decode cX6_product 187 = .ok (.iload 5, 2) := by decide +kernel
theorem dX6_product_189 : decode cX6_product 189 = .ok (.irem, 1) := by decide +kernel
theorem dX6_product_190 : decode cX6_product 190 = .ok (.iload 7, 2) := by decide +kernel
theorem dX6_product_192 : decode cX6_product 192 = .ok (.iload 5, 2) := by decide +kernel
theorem dX6_product_194 : decode cX6_product 194 = .ok (.irem, 1) := by decide +kernel
theorem dX6_product_195 : decode cX6_product 195 = .ok (.if_icmp .ne 29, 3) := by decide +kernel
theorem dX6_product_198 : decode cX6_product 198 = .ok (.aload_n 0, 1) := by decide +kernel
theorem dX6_product_199 : decode cX6_product 199 = .ok (.getfield 16, 3) := by decide +kernel
theorem dX6_product_202 : decode cX6_product 202 = .ok (.iload 6, 2) := by decide +kernel
theorem dX6_product_204 : decode cX6_product 204 = .ok (.iload 5, 2) := by decide +kernel
theorem dX6_product_206 : decode cX6_product 206 = .ok (.idiv, 1) := by decide +kernel
theorem dX6_product_207 : decode cX6_product 207 = .ok (.iaload, 1) := by decide +kernel
theorem dX6_product_208 : decode cX6_product 208 = .ok (.iload 7, 2) := by decide +kernel
theorem dX6_product_210 : decode cX6_product 210 = .ok (.iload 5, 2) := by decide +kernel
theorem dX6_product_212 : decode cX6_product 212 = .ok (.idiv, 1) := by decide +kernel
theorem dX6_product_213 : decode cX6_product 213 = .ok (.ishr, 1) := by decide +kernel
theorem dX6_product_214 : decode cX6_product 214 = .ok (.iconst 1, 1) := by decide +kernel
theorem dX6_product_215 : decode cX6_product 215 = .ok (.iand, 1) := by decide +kernel
theorem dX6_product_216 : decode cX6_product 216 = .ok (.iconst 1, 1) := by decide +kernel
theorem dX6_product_217 : decode cX6_product 217 = .ok (.if_icmp .ne 7, 3) := by decide +kernel
theorem dX6_product_220 : decode cX6_product 220 = .ok (.iconst 1, 1) := by decide +kernel
theorem dX6_product_221 : decode cX6_product 221 = .ok (.goto 4, 3) := by decide +kernel
theorem dX6_product_224 : decode cX6_product 224 = .ok (.iconst 0, 1) := by decide +kernel
theorem dX6_product_225 : decode cX6_product 225 = .ok (.istore 9, 2) := by decide +kernel
theorem dX6_product_227 : decode cX6_product 227 = .ok (.iload 8, 2) := by decide +kernel
theorem dX6_product_229 : decode cX6_product 229 = .ok (.ifCond .ne 8, 3) := by decide +kernel
theorem dX6_product_232 : decode cX6_product 232 = .ok (.iload 9, 2) := by decide +kernel
theorem dX6_product_234 : decode cX6_product 234 = .ok (.ifCond .eq 12, 3) := by decide +kernel
theorem dX6_product_237 : decode cX6_product 237 = .ok (.aload_n 0, 1) := by decide +kernel
theorem dX6_product_238 : decode cX6_product 238 = .ok (.iload_n 3, 1) := by decide +kernel
theorem dX6_product_239 : decode cX6_product 239 = .ok (.iload 6, 2) := by decide +kernel
theorem dX6_product_241 : decode cX6_product 241 = .ok (.iload 7, 2) := by decide +kernel
theorem dX6_product_243 : decode cX6_product 243 = .ok (.invokevirtual 88, 3) := by decide +kernel
theorem dX6_product_246 : decode cX6_product 246 = .ok (.iinc 7 1, 3) := by decide +kernel
theorem dX6_product_249 : decode cX6_product 249 = .ok (.goto (-116), 3) := by decide +kernel
theorem dX6_product_252 : decode cX6_product 252 = .ok (.iinc 6 1, 3) := by decide +kernel
theorem dX6_product_255 : decode cX6_product 255 = .ok (.goto (-135), 3) := by decide +kernel
theorem dX6_product_258 : decode cX6_product 258 = .ok (.iload 4, 2) := by decide +kernel
theorem dX6_product_260 : decode cX6_product 260 = .ok (.iload 5, 2) := by decide +kernel
theorem dX6_product_262 : decode cX6_product 262 = .ok (.imul, 1) := by decide +kernel
theorem dX6_product_263 : decode cX6_product 263 = .ok (.ireturn, 1) := by decide +kernel
theorem dX6_turned_0 : decode cX6_turned 0 = .ok (.iload_n 1, 1) := by decide +kernel
theorem dX6_turned_1 : decode cX6_turned 1 = .ok (.invokestatic 69, 3) := by decide +kernel
theorem dX6_turned_4 : decode cX6_turned 4 = .ok (.ifCond .eq 10, 3) := by decide +kernel
theorem dX6_turned_7 : decode cX6_turned 7 = .ok (.iload_n 2, 1) := by decide +kernel
theorem dX6_turned_8 : decode cX6_turned 8 = .ok (.invokestatic 69, 3) := by decide +kernel
theorem dX6_turned_11 : decode cX6_turned 11 = .ok (.ifCond .ne 6, 3) := by decide +kernel
theorem dX6_turned_14 : decode cX6_turned 14 = .ok (.bipush (-2), 2) := by decide +kernel
theorem dX6_turned_16 : decode cX6_turned 16 = .ok (.ireturn, 1) := by decide +kernel
theorem dX6_turned_17 : decode cX6_turned 17 = .ok (.aload_n 0, 1) := by decide +kernel
theorem dX6_turned_18 : decode cX6_turned 18 = .ok (.getfield 7, 3) := by decide +kernel
theorem dX6_turned_21 : decode cX6_turned 21 = .ok (.iload_n 1, 1) := by decide +kernel
theorem dX6_turned_22 : decode cX6_turned 22 = .ok (.iaload, 1) := by decide +kernel
theorem dX6_turned_23 : decode cX6_turned 23 = .ok (.istore_n 3, 1) := by decide +kernel
theorem dX6_turned_24 : decode cX6_turned 24 = .ok (.iconst 0, 1) := by decide +kernel
theorem dX6_turned_25 : decode cX6_turned 25 = .ok (.istore 4, 2) := by decide +kernel
theorem dX6_turned_27 : decode cX6_turned 27 = .ok (.iload 4, 2) := by decide +kernel
theorem dX6_turned_29 : decode cX6_turned 29 = .ok (.bipush 10, 2) := by decide +kernel
theorem dX6_turned_31 : decode cX6_turned 31 = .ok (.if_icmp .ge 28, 3) := by decide +kernel
theorem dX6_turned_34 : decode cX6_turned 34 = .ok (.aload_n 0, 1) := by decide +kernel
theorem dX6_turned_35 : decode cX6_turned 35 = .ok (.getfield 16, 3) := by decide +kernel
theorem dX6_turned_38 : decode cX6_turned 38 = .ok (.iload 4, 2) := by decide +kernel
theorem dX6_turned_40 : decode cX6_turned 40 = .ok (.aload_n 0, 1) := by decide +kernel
theorem dX6_turned_41 : decode cX6_turned 41 = .ok (.getfield 13, 3) := by decide +kernel
theorem dX6_turned_44 : decode cX6_turned 44 = .ok (.bipush 10, 2) := by decide +kernel
theorem dX6_turned_46 : decode cX6_turned 46 = .ok (.iload_n 1, 1) := by decide +kernel
theorem dX6_turned_47 : decode cX6_turned 47 = .ok (.imul, 1) := by decide +kernel
theorem dX6_turned_48 : decode cX6_turned 48 = .ok (.iload 4, 2) := by decide +kernel
theorem dX6_turned_50 : decode cX6_turned 50 = .ok (.iadd, 1) := by decide +kernel
theorem dX6_turned_51 : decode cX6_turned 51 = .ok (.iaload, 1) := by decide +kernel
theorem dX6_turned_52 : decode cX6_turned 52 = .ok (.iastore, 1) := by decide +kernel
theorem dX6_turned_53 : decode cX6_turned 53 = .ok (.iinc 4 1, 3) := by decide +kernel
theorem dX6_turned_56 : decode cX6_turned 56 = .ok (.goto (-29), 3) := by decide +kernel
theorem dX6_turned_59 : decode cX6_turned 59 = .ok (.aload_n 0, 1) := by decide +kernel
theorem dX6_turned_60 : decode cX6_turned 60 = .ok (.iload_n 2, 1) := by decide +kernel
theorem dX6_turned_61 : decode cX6_turned 61 = .ok (.iload_n 3, 1) := by decide +kernel
theorem dX6_turned_62 : decode cX6_turned 62 = .ok (.invokevirtual 77, 3) := by decide +kernel
theorem dX6_turned_65 : decode cX6_turned 65 = .ok (.iconst 0, 1) := by decide +kernel
theorem dX6_turned_66 : decode cX6_turned 66 = .ok (.istore 4, 2) := by decide +kernel
theorem dX6_turned_68 : decode cX6_turned 68 = .ok (.iload 4, 2) := by decide +kernel
theorem dX6_turned_70 : decode cX6_turned 70 = .ok (.iload_n 3, 1) := by decide +kernel
theorem dX6_turned_71 : decode cX6_turned 71 = .ok (.if_icmp .ge 43, 3) := by decide +kernel
theorem dX6_turned_74 : decode cX6_turned 74 = .ok (.aload_n 0, 1) := by decide +kernel
theorem dX6_turned_75 : decode cX6_turned 75 = .ok (.getfield 13, 3) := by decide +kernel
theorem dX6_turned_78 : decode cX6_turned 78 = .ok (.bipush 10, 2) := by decide +kernel
theorem dX6_turned_80 : decode cX6_turned 80 = .ok (.iload_n 2, 1) := by decide +kernel
theorem dX6_turned_81 : decode cX6_turned 81 = .ok (.imul, 1) := by decide +kernel
theorem dX6_turned_82 : decode cX6_turned 82 = .ok (.iload 4, 2) := by decide +kernel
theorem dX6_turned_84 : decode cX6_turned 84 = .ok (.iadd, 1) := by decide +kernel
theorem dX6_turned_85 : decode cX6_turned 85 = .ok (.iconst 1, 1) := by decide +kernel
theorem dX6_turned_86 : decode cX6_turned 86 = .ok (.iload_n 3, 1) := by decide +kernel
theorem dX6_turned_87 : decode cX6_turned 87 = .ok (.ishl, 1) := by decide +kernel
theorem dX6_turned_88 : decode cX6_turned 88 = .ok (.iconst 1, 1) := by decide +kernel
theorem dX6_turned_89 : decode cX6_turned 89 = .ok (.isub, 1) := by decide +kernel
theorem dX6_turned_90 : decode cX6_turned 90 = .ok (.aload_n 0, 1) := by decide +kernel
theorem dX6_turned_91 : decode cX6_turned 91 = .ok (.getfield 16, 3) := by decide +kernel
theorem dX6_turned_94 : decode cX6_turned 94 = .ok (.iload 4, 2) := by decide +kernel
theorem dX6_turned_96 : decode cX6_turned 96 = .ok (.iaload, 1) := by decide +kernel
theorem dX6_turned_97 : decode cX6_turned 97 = .ok (.iconst (-1), 1) := by decide +kernel
theorem dX6_turned_98 : decode cX6_turned 98 = .ok (.ixor, 1) := by decide +kernel
theorem dX6_turned_99 : decode cX6_turned 99 = .ok (.iand, 1) := by decide +kernel
theorem dX6_turned_100 : decode cX6_turned 100 = .ok (.iconst 1, 1) := by decide +kernel
theorem dX6_turned_101 : decode cX6_turned 101 = .ok (.iload 4, 2) := by decide +kernel
theorem dX6_turned_103 : decode cX6_turned 103 = .ok (.ishl, 1) := by decide +kernel
theorem dX6_turned_104 : decode cX6_turned 104 = .ok (.iconst (-1), 1) := by decide +kernel
theorem dX6_turned_105 : decode cX6_turned 105 = .ok (.ixor, 1) := by decide +kernel
theorem dX6_turned_106 : decode cX6_turned 106 = .ok (.iand, 1) := by decide +kernel
theorem dX6_turned_107 : decode cX6_turned 107 = .ok (.iastore, 1) := by decide +kernel
theorem dX6_turned_108 : decode cX6_turned 108 = .ok (.iinc 4 1, 3) := by decide +kernel
theorem dX6_turned_111 : decode cX6_turned 111 = .ok (.goto (-43), 3) := by decide +kernel
theorem dX6_turned_114 : decode cX6_turned 114 = .ok (.aload_n 0, 1) := by decide +kernel
theorem dX6_turned_115 : decode cX6_turned 115 = .ok (.iload_n 2, 1) := by decide +kernel
theorem dX6_turned_116 : decode cX6_turned 116 = .ok (.invokevirtual 92, 3) := by decide +kernel
theorem dX6_turned_119 : decode cX6_turned 119 = .ok (.ireturn, 1) := by decide +kernel
theorem dX6_degreeOf_0 : decode cX6_degreeOf 0 = .ok (.aload_n 0, 1) := by decide +kernel
theorem dX6_degreeOf_1 : decode cX6_degreeOf 1 = .ok (.getfield 13, 3) := by decide +kernel
theorem dX6_degreeOf_4 : decode cX6_degreeOf 4 = .ok (.bipush 10, 2) := by decide +kernel
theorem dX6_degreeOf_6 : decode cX6_degreeOf 6 = .ok (.iload_n 1, 1) := by decide +kernel
theorem dX6_degreeOf_7 : decode cX6_degreeOf 7 = .ok (.imul, 1) := by decide +kernel
theorem dX6_degreeOf_8 : decode cX6_degreeOf 8 = .ok (.iaload, 1) := by decide +kernel
theorem dX6_degreeOf_9 : decode cX6_degreeOf 9 = .ok (.invokestatic 73, 3) := by decide +kernel
theorem dX6_degreeOf_12 : decode cX6_degreeOf 12 = .ok (.istore_n 2, 1) := by decide +kernel
theorem dX6_degreeOf_13 : decode cX6_degreeOf 13 = .ok (.iconst 1, 1) := by decide +kernel
theorem dX6_degreeOf_14 : decode cX6_degreeOf 14 = .ok (.istore_n 3, 1) := by decide +kernel
theorem dX6_degreeOf_15 : decode cX6_degreeOf 15 = .ok (.iload_n 3, 1) := by decide +kernel
theorem dX6_degreeOf_16 : decode cX6_degreeOf 16 = .ok (.aload_n 0, 1) := by decide +kernel
theorem dX6_degreeOf_17 : decode cX6_degreeOf 17 = .ok (.getfield 7, 3) := by decide +kernel
theorem dX6_degreeOf_20 : decode cX6_degreeOf 20 = .ok (.iload_n 1, 1) := by decide +kernel
theorem dX6_degreeOf_21 : decode cX6_degreeOf 21 = .ok (.iaload, 1) := by decide +kernel
theorem dX6_degreeOf_22 : decode cX6_degreeOf 22 = .ok (.if_icmp .ge 33, 3) := by decide +kernel
theorem dX6_degreeOf_25 : decode cX6_degreeOf 25 = .ok (.aload_n 0, 1) := by decide +kernel
theorem dX6_degreeOf_26 : decode cX6_degreeOf 26 = .ok (.getfield 13, 3) := by decide +kernel
theorem dX6_degreeOf_29 : decode cX6_degreeOf 29 = .ok (.bipush 10, 2) := by decide +kernel
theorem dX6_degreeOf_31 : decode cX6_degreeOf 31 = .ok (.iload_n 1, 1) := by decide +kernel
theorem dX6_degreeOf_32 : decode cX6_degreeOf 32 = .ok (.imul, 1) := by decide +kernel
theorem dX6_degreeOf_33 : decode cX6_degreeOf 33 = .ok (.iload_n 3, 1) := by decide +kernel
theorem dX6_degreeOf_34 : decode cX6_degreeOf 34 = .ok (.iadd, 1) := by decide +kernel
theorem dX6_degreeOf_35 : decode cX6_degreeOf 35 = .ok (.iaload, 1) := by decide +kernel
theorem dX6_degreeOf_36 : decode cX6_degreeOf 36 = .ok (.invokestatic 73, 3) := by decide +kernel
theorem dX6_degreeOf_39 : decode cX6_degreeOf 39 = .ok (.iload_n 2, 1) := by decide +kernel
theorem dX6_degreeOf_40 : decode cX6_degreeOf 40 = .ok (.if_icmp .ne 7, 3) := by decide +kernel
theorem dX6_degreeOf_43 : decode cX6_degreeOf 43 = .ok (.iload_n 2, 1) := by decide +kernel
theorem dX6_degreeOf_44 : decode cX6_degreeOf 44 = .ok (.goto 4, 3) := by decide +kernel
theorem dX6_degreeOf_47 : decode cX6_degreeOf 47 = .ok (.iconst (-1), 1) := by decide +kernel
theorem dX6_degreeOf_48 : decode cX6_degreeOf 48 = .ok (.istore_n 2, 1) := by decide +kernel
theorem dX6_degreeOf_49 : decode cX6_degreeOf 49 = .ok (.iinc 3 1, 3) := by decide +kernel
theorem dX6_degreeOf_52 : decode cX6_degreeOf 52 = .ok (.goto (-37), 3) := by decide +kernel
theorem dX6_degreeOf_55 : decode cX6_degreeOf 55 = .ok (.iload_n 2, 1) := by decide +kernel
theorem dX6_degreeOf_56 : decode cX6_degreeOf 56 = .ok (.ireturn, 1) := by decide +kernel
theorem dX6_grown_0 : decode cX6_grown 0 = .ok (.iload_n 2, 1) := by decide +kernel
theorem dX6_grown_1 : decode cX6_grown 1 = .ok (.istore_n 3, 1) := by decide +kernel
theorem dX6_grown_2 : decode cX6_grown 2 = .ok (.iconst 0, 1) := by decide +kernel
theorem dX6_grown_3 : decode cX6_grown 3 = .ok (.istore 4, 2) := by decide +kernel
theorem dX6_grown_5 : decode cX6_grown 5 = .ok (.iload 4, 2) := by decide +kernel
theorem dX6_grown_7 : decode cX6_grown 7 = .ok (.aload_n 0, 1) := by decide +kernel
theorem dX6_grown_8 : decode cX6_grown 8 = .ok (.getfield 7, 3) := by decide +kernel
theorem dX6_grown_11 : decode cX6_grown 11 = .ok (.iload_n 1, 1) := by decide +kernel
theorem dX6_grown_12 : decode cX6_grown 12 = .ok (.iaload, 1) := by decide +kernel
theorem dX6_grown_13 : decode cX6_grown 13 = .ok (.if_icmp .ge 58, 3) := by decide +kernel
theorem dX6_grown_16 : decode cX6_grown 16 = .ok (.iconst 0, 1) := by decide +kernel
theorem dX6_grown_17 : decode cX6_grown 17 = .ok (.istore 5, 2) := by decide +kernel
theorem dX6_grown_19 : decode cX6_grown 19 = .ok (.iload 5, 2) := by decide +kernel
theorem dX6_grown_21 : decode cX6_grown 21 = .ok (.aload_n 0, 1) := by decide +kernel
theorem dX6_grown_22 : decode cX6_grown 22 = .ok (.getfield 7, 3) := by decide +kernel
theorem dX6_grown_25 : decode cX6_grown 25 = .ok (.iload_n 1, 1) := by decide +kernel
theorem dX6_grown_26 : decode cX6_grown 26 = .ok (.iaload, 1) := by decide +kernel
theorem dX6_grown_27 : decode cX6_grown 27 = .ok (.if_icmp .ge 38, 3) := by decide +kernel
theorem dX6_grown_30 : decode cX6_grown 30 = .ok (.iload_n 3, 1) := by decide +kernel
theorem dX6_grown_31 : decode cX6_grown 31 = .ok (.iload_n 3, 1) := by decide +kernel
theorem dX6_grown_32 : decode cX6_grown 32 = .ok (.iload 5, 2) := by decide +kernel
theorem dX6_grown_34 : decode cX6_grown 34 = .ok (.ishr, 1) := by decide +kernel
theorem dX6_grown_35 : decode cX6_grown 35 = .ok (.iconst 1, 1) := by decide +kernel
theorem dX6_grown_36 : decode cX6_grown 36 = .ok (.iand, 1) := by decide +kernel
theorem dX6_grown_37 : decode cX6_grown 37 = .ok (.iconst 1, 1) := by decide +kernel
theorem dX6_grown_38 : decode cX6_grown 38 = .ok (.if_icmp .ne 18, 3) := by decide +kernel
theorem dX6_grown_41 : decode cX6_grown 41 = .ok (.aload_n 0, 1) := by decide +kernel
theorem dX6_grown_42 : decode cX6_grown 42 = .ok (.getfield 13, 3) := by decide +kernel
theorem dX6_grown_45 : decode cX6_grown 45 = .ok (.bipush 10, 2) := by decide +kernel
theorem dX6_grown_47 : decode cX6_grown 47 = .ok (.iload_n 1, 1) := by decide +kernel
theorem dX6_grown_48 : decode cX6_grown 48 = .ok (.imul, 1) := by decide +kernel
theorem dX6_grown_49 : decode cX6_grown 49 = .ok (.iload 5, 2) := by decide +kernel
theorem dX6_grown_51 : decode cX6_grown 51 = .ok (.iadd, 1) := by decide +kernel
theorem dX6_grown_52 : decode cX6_grown 52 = .ok (.iaload, 1) := by decide +kernel
theorem dX6_grown_53 : decode cX6_grown 53 = .ok (.goto 4, 3) := by decide +kernel
theorem dX6_grown_56 : decode cX6_grown 56 = .ok (.iconst 0, 1) := by decide +kernel
theorem dX6_grown_57 : decode cX6_grown 57 = .ok (.ior, 1) := by decide +kernel
theorem dX6_grown_58 : decode cX6_grown 58 = .ok (.istore_n 3, 1) := by decide +kernel
theorem dX6_grown_59 : decode cX6_grown 59 = .ok (.iinc 5 1, 3) := by decide +kernel
theorem dX6_grown_62 : decode cX6_grown 62 = .ok (.goto (-43), 3) := by decide +kernel
theorem dX6_grown_65 : decode cX6_grown 65 = .ok (.iinc 4 1, 3) := by decide +kernel
theorem dX6_grown_68 : decode cX6_grown 68 = .ok (.goto (-63), 3) := by decide +kernel
theorem dX6_grown_71 : decode cX6_grown 71 = .ok (.iload_n 3, 1) := by decide +kernel
theorem dX6_grown_72 : decode cX6_grown 72 = .ok (.ireturn, 1) := by decide +kernel
theorem dX6_parts_0 : decode cX6_parts 0 = .ok (.iconst 0, 1) := by decide +kernel
theorem dX6_parts_1 : decode cX6_parts 1 = .ok (.istore_n 2, 1) := by decide +kernel
theorem dX6_parts_2 : decode cX6_parts 2 = .ok (.iconst 0, 1) := by decide +kernel
theorem dX6_parts_3 : decode cX6_parts 3 = .ok (.istore_n 3, 1) := by decide +kernel
theorem dX6_parts_4 : decode cX6_parts 4 = .ok (.iconst 0, 1) := by decide +kernel
theorem dX6_parts_5 : decode cX6_parts 5 = .ok (.istore 4, 2) := by decide +kernel
theorem dX6_parts_7 : decode cX6_parts 7 = .ok (.iload 4, 2) := by decide +kernel
theorem dX6_parts_9 : decode cX6_parts 9 = .ok (.aload_n 0, 1) := by decide +kernel
theorem dX6_parts_10 : decode cX6_parts 10 = .ok (.getfield 7, 3) := by decide +kernel
theorem dX6_parts_13 : decode cX6_parts 13 = .ok (.iload_n 1, 1) := by decide +kernel
theorem dX6_parts_14 : decode cX6_parts 14 = .ok (.iaload, 1) := by decide +kernel
theorem dX6_parts_15 : decode cX6_parts 15 = .ok (.if_icmp .ge 33, 3) := by decide +kernel
theorem dX6_parts_18 : decode cX6_parts 18 = .ok (.iload_n 3, 1) := by decide +kernel
theorem dX6_parts_19 : decode cX6_parts 19 = .ok (.iload 4, 2) := by decide +kernel
theorem dX6_parts_21 : decode cX6_parts 21 = .ok (.ishr, 1) := by decide +kernel
theorem dX6_parts_22 : decode cX6_parts 22 = .ok (.iconst 1, 1) := by decide +kernel
theorem dX6_parts_23 : decode cX6_parts 23 = .ok (.iand, 1) := by decide +kernel
theorem dX6_parts_24 : decode cX6_parts 24 = .ok (.ifCond .ne 18, 3) := by decide +kernel
theorem dX6_parts_27 : decode cX6_parts 27 = .ok (.iload_n 3, 1) := by decide +kernel
theorem dX6_parts_28 : decode cX6_parts 28 = .ok (.aload_n 0, 1) := by decide +kernel
theorem dX6_parts_29 : decode cX6_parts 29 = .ok (.iload_n 1, 1) := by decide +kernel
theorem dX6_parts_30 : decode cX6_parts 30 = .ok (.iconst 1, 1) := by decide +kernel
theorem dX6_parts_31 : decode cX6_parts 31 = .ok (.iload 4, 2) := by decide +kernel
theorem dX6_parts_33 : decode cX6_parts 33 = .ok (.ishl, 1) := by decide +kernel
theorem dX6_parts_34 : decode cX6_parts 34 = .ok (.invokevirtual 95, 3) := by decide +kernel
theorem dX6_parts_37 : decode cX6_parts 37 = .ok (.ior, 1) := by decide +kernel
theorem dX6_parts_38 : decode cX6_parts 38 = .ok (.istore_n 3, 1) := by decide +kernel
theorem dX6_parts_39 : decode cX6_parts 39 = .ok (.iinc 2 1, 3) := by decide +kernel
theorem dX6_parts_42 : decode cX6_parts 42 = .ok (.iinc 4 1, 3) := by decide +kernel
theorem dX6_parts_45 : decode cX6_parts 45 = .ok (.goto (-38), 3) := by decide +kernel
theorem dX6_parts_48 : decode cX6_parts 48 = .ok (.iload_n 2, 1) := by decide +kernel
theorem dX6_parts_49 : decode cX6_parts 49 = .ok (.ireturn, 1) := by decide +kernel
theorem dX6_about_0 : decode cX6_about 0 = .ok (.iload_n 1, 1) := by decide +kernel
theorem dX6_about_1 : decode cX6_about 1 = .ok (.invokestatic 69, 3) := by decide +kernel
theorem dX6_about_4 : decode cX6_about 4 = .ok (.ifCond .ne 6, 3) := by decide +kernel
theorem dX6_about_7 : decode cX6_about 7 = .ok (.bipush (-2), 2) := by decide +kernel
theorem dX6_about_9 : decode cX6_about 9 = .ok (.ireturn, 1) := by decide +kernel
theorem dX6_about_10 : decode cX6_about 10 = .ok (.iload_n 2, 1) := by decide +kernel
theorem dX6_about_11 : decode cX6_about 11 = .ok (.ifCond .ne 12, 3) := by decide +kernel
theorem dX6_about_14 : decode cX6_about 14 = .ok (.aload_n 0, 1) := by decide +kernel
theorem dX6_about_15 : decode cX6_about 15 = .ok (.getfield 7, 3) := by decide +kernel
theorem dX6_about_18 : decode cX6_about 18 = .ok (.iload_n 1, 1) := by decide +kernel
theorem dX6_about_19 : decode cX6_about 19 = .ok (.iaload, 1) := by decide +kernel
theorem dX6_about_20 : decode cX6_about 20 = .ok (.goto 44, 3) := by decide +kernel
theorem dX6_about_23 : decode cX6_about 23 = .ok (.iload_n 2, 1) := by decide +kernel
theorem dX6_about_24 : decode cX6_about 24 = .ok (.iconst 1, 1) := by decide +kernel
theorem dX6_about_25 : decode cX6_about 25 = .ok (.if_icmp .ne 11, 3) := by decide +kernel
theorem dX6_about_28 : decode cX6_about 28 = .ok (.aload_n 0, 1) := by decide +kernel
theorem dX6_about_29 : decode cX6_about 29 = .ok (.iload_n 1, 1) := by decide +kernel
theorem dX6_about_30 : decode cX6_about 30 = .ok (.invokevirtual 92, 3) := by decide +kernel
theorem dX6_about_33 : decode cX6_about 33 = .ok (.goto 31, 3) := by decide +kernel
theorem dX6_about_36 : decode cX6_about 36 = .ok (.iload_n 2, 1) := by decide +kernel
theorem dX6_about_37 : decode cX6_about 37 = .ok (.iconst 2, 1) := by decide +kernel
theorem dX6_about_38 : decode cX6_about 38 = .ok (.if_icmp .ne 11, 3) := by decide +kernel
theorem dX6_about_41 : decode cX6_about 41 = .ok (.aload_n 0, 1) := by decide +kernel
theorem dX6_about_42 : decode cX6_about 42 = .ok (.iload_n 1, 1) := by decide +kernel
theorem dX6_about_43 : decode cX6_about 43 = .ok (.invokevirtual 99, 3) := by decide +kernel
theorem dX6_about_46 : decode cX6_about 46 = .ok (.goto 18, 3) := by decide +kernel
theorem dX6_about_49 : decode cX6_about 49 = .ok (.iload_n 2, 1) := by decide +kernel
theorem dX6_about_50 : decode cX6_about 50 = .ok (.iconst 3, 1) := by decide +kernel
theorem dX6_about_51 : decode cX6_about 51 = .ok (.if_icmp .ne 11, 3) := by decide +kernel
theorem dX6_about_54 : decode cX6_about 54 = .ok (.aload_n 0, 1) := by decide +kernel
theorem dX6_about_55 : decode cX6_about 55 = .ok (.iload_n 1, 1) := by decide +kernel
theorem dX6_about_56 : decode cX6_about 56 = .ok (.invokevirtual 102, 3) := by decide +kernel
theorem dX6_about_59 : decode cX6_about 59 = .ok (.goto 5, 3) := by decide +kernel
theorem dX6_about_62 : decode cX6_about 62 = .ok (.bipush (-2), 2) := by decide +kernel
theorem dX6_about_64 : decode cX6_about 64 = .ok (.ireturn, 1) := by decide +kernel
theorem dX6_near_0 : decode cX6_near 0 = .ok (.aload_n 0, 1) := by decide +kernel
theorem dX6_near_1 : decode cX6_near 1 = .ok (.iload_n 1, 1) := by decide +kernel
theorem dX6_near_2 : decode cX6_near 2 = .ok (.iload_n 2, 1) := by decide +kernel
theorem dX6_near_3 : decode cX6_near 3 = .ok (.invokevirtual 81, 3) := by decide +kernel
theorem dX6_near_6 : decode cX6_near 6 = .ok (.ifCond .eq 17, 3) := by decide +kernel
theorem dX6_near_9 : decode cX6_near 9 = .ok (.aload_n 0, 1) := by decide +kernel
theorem dX6_near_10 : decode cX6_near 10 = .ok (.getfield 13, 3) := by decide +kernel
theorem dX6_near_13 : decode cX6_near 13 = .ok (.bipush 10, 2) := by decide +kernel
theorem dX6_near_15 : decode cX6_near 15 = .ok (.iload_n 1, 1) := by decide +kernel
theorem dX6_near_16 : decode cX6_near 16 = .ok (.imul, 1) := by decide +kernel
theorem dX6_near_17 : decode cX6_near 17 = .ok (.iload_n 2, 1) := by decide +kernel
theorem dX6_near_18 : decode cX6_near 18 = .ok (.iadd, 1) := by decide +kernel
theorem dX6_near_19 : decode cX6_near 19 = .ok (.iaload, 1) := by decide +kernel
theorem dX6_near_20 : decode cX6_near 20 = .ok (.goto 5, 3) := by decide +kernel
theorem dX6_near_23 : decode cX6_near 23 = .ok (.bipush (-2), 2) := by decide +kernel
theorem dX6_near_25 : decode cX6_near 25 = .ok (.ireturn, 1) := by decide +kernel
theorem dX6_layLines_0 : decode cX6_layLines 0 = .ok (.aload_n 0, 1) := by decide +kernel
theorem dX6_layLines_1 : decode cX6_layLines 1 = .ok (.iconst 0, 1) := by decide +kernel
theorem dX6_layLines_2 : decode cX6_layLines 2 = .ok (.putfield 105, 3) := by decide +kernel
theorem dX6_layLines_5 : decode cX6_layLines 5 = .ok (.iconst 0, 1) := by decide +kernel
theorem dX6_layLines_6 : decode cX6_layLines 6 = .ok (.istore_n 2, 1) := by decide +kernel
theorem dX6_layLines_7 : decode cX6_layLines 7 = .ok (.iload_n 2, 1) := by decide +kernel
theorem dX6_layLines_8 : decode cX6_layLines 8 = .ok (.aload_n 0, 1) := by decide +kernel
theorem dX6_layLines_9 : decode cX6_layLines 9 = .ok (.getfield 7, 3) := by decide +kernel
theorem dX6_layLines_12 : decode cX6_layLines 12 = .ok (.iload_n 1, 1) := by decide +kernel
theorem dX6_layLines_13 : decode cX6_layLines 13 = .ok (.iaload, 1) := by decide +kernel
theorem dX6_layLines_14 : decode cX6_layLines 14 = .ok (.if_icmp .ge 69, 3) := by decide +kernel
theorem dX6_layLines_17 : decode cX6_layLines 17 = .ok (.iload_n 2, 1) := by decide +kernel
theorem dX6_layLines_18 : decode cX6_layLines 18 = .ok (.iconst 1, 1) := by decide +kernel
theorem dX6_layLines_19 : decode cX6_layLines 19 = .ok (.iadd, 1) := by decide +kernel
theorem dX6_layLines_20 : decode cX6_layLines 20 = .ok (.istore_n 3, 1) := by decide +kernel
theorem dX6_layLines_21 : decode cX6_layLines 21 = .ok (.iload_n 3, 1) := by decide +kernel
theorem dX6_layLines_22 : decode cX6_layLines 22 = .ok (.aload_n 0, 1) := by decide +kernel
theorem dX6_layLines_23 : decode cX6_layLines 23 = .ok (.getfield 7, 3) := by decide +kernel
theorem dX6_layLines_26 : decode cX6_layLines 26 = .ok (.iload_n 1, 1) := by decide +kernel
theorem dX6_layLines_27 : decode cX6_layLines 27 = .ok (.iaload, 1) := by decide +kernel
theorem dX6_layLines_28 : decode cX6_layLines 28 = .ok (.if_icmp .ge 49, 3) := by decide +kernel
theorem dX6_layLines_31 : decode cX6_layLines 31 = .ok (.aload_n 0, 1) := by decide +kernel
theorem dX6_layLines_32 : decode cX6_layLines 32 = .ok (.iload_n 1, 1) := by decide +kernel
theorem dX6_layLines_33 : decode cX6_layLines 33 = .ok (.iload_n 2, 1) := by decide +kernel
theorem dX6_layLines_34 : decode cX6_layLines 34 = .ok (.iload_n 3, 1) := by decide +kernel
theorem dX6_layLines_35 : decode cX6_layLines 35 = .ok (.invokevirtual 85, 3) := by decide +kernel
theorem dX6_layLines_38 : decode cX6_layLines 38 = .ok (.ifCond .eq 33, 3) := by decide +kernel
theorem dX6_layLines_41 : decode cX6_layLines 41 = .ok (.aload_n 0, 1) := by decide +kernel
theorem dX6_layLines_42 : decode cX6_layLines 42 = .ok (.getfield 22, 3) := by decide +kernel
theorem dX6_layLines_45 : decode cX6_layLines 45 = .ok (.aload_n 0, 1) := by decide +kernel
theorem dX6_layLines_46 : decode cX6_layLines 46 = .ok (.getfield 105, 3) := by decide +kernel
theorem dX6_layLines_49 : decode cX6_layLines 49 = .ok (.iload_n 2, 1) := by decide +kernel
theorem dX6_layLines_50 : decode cX6_layLines 50 = .ok (.iastore, 1) := by decide +kernel
theorem dX6_layLines_51 : decode cX6_layLines 51 = .ok (.aload_n 0, 1) := by decide +kernel
theorem dX6_layLines_52 : decode cX6_layLines 52 = .ok (.getfield 25, 3) := by decide +kernel
theorem dX6_layLines_55 : decode cX6_layLines 55 = .ok (.aload_n 0, 1) := by decide +kernel
theorem dX6_layLines_56 : decode cX6_layLines 56 = .ok (.getfield 105, 3) := by decide +kernel
theorem dX6_layLines_59 : decode cX6_layLines 59 = .ok (.iload_n 3, 1) := by decide +kernel
theorem dX6_layLines_60 : decode cX6_layLines 60 = .ok (.iastore, 1) := by decide +kernel
theorem dX6_layLines_61 : decode cX6_layLines 61 = .ok (.aload_n 0, 1) := by decide +kernel
theorem dX6_layLines_62 : decode cX6_layLines 62 = .ok (.dup, 1) := by decide +kernel
theorem dX6_layLines_63 : decode cX6_layLines 63 = .ok (.getfield 105, 3) := by decide +kernel
theorem dX6_layLines_66 : decode cX6_layLines 66 = .ok (.iconst 1, 1) := by decide +kernel
theorem dX6_layLines_67 : decode cX6_layLines 67 = .ok (.iadd, 1) := by decide +kernel
theorem dX6_layLines_68 : decode cX6_layLines 68 = .ok (.putfield 105, 3) := by decide +kernel
theorem dX6_layLines_71 : decode cX6_layLines 71 = .ok (.iinc 3 1, 3) := by decide +kernel
theorem dX6_layLines_74 : decode cX6_layLines 74 = .ok (.goto (-53), 3) := by decide +kernel
theorem dX6_layLines_77 : decode cX6_layLines 77 = .ok (.iinc 2 1, 3) := by decide +kernel
theorem dX6_layLines_80 : decode cX6_layLines 80 = .ok (.goto (-73), 3) := by decide +kernel
theorem dX6_layLines_83 : decode cX6_layLines 83 = .ok (.return_, 1) := by decide +kernel
theorem dX6_number_0 : decode cX6_number 0 = .ok (.aload_n 0, 1) := by decide +kernel
theorem dX6_number_1 : decode cX6_number 1 = .ok (.iload_n 1, 1) := by decide +kernel
theorem dX6_number_2 : decode cX6_number 2 = .ok (.iload_n 2, 1) := by decide +kernel
theorem dX6_number_3 : decode cX6_number 3 = .ok (.invokevirtual 81, 3) := by decide +kernel
theorem dX6_number_6 : decode cX6_number 6 = .ok (.ifCond .eq 17, 3) := by decide +kernel
theorem dX6_number_9 : decode cX6_number 9 = .ok (.aload_n 0, 1) := by decide +kernel
theorem dX6_number_10 : decode cX6_number 10 = .ok (.iload_n 1, 1) := by decide +kernel
theorem dX6_number_11 : decode cX6_number 11 = .ok (.iload_n 3, 1) := by decide +kernel
theorem dX6_number_12 : decode cX6_number 12 = .ok (.invokevirtual 81, 3) := by decide +kernel
theorem dX6_number_15 : decode cX6_number 15 = .ok (.ifCond .eq 8, 3) := by decide +kernel
theorem dX6_number_18 : decode cX6_number 18 = .ok (.iload_n 2, 1) := by decide +kernel
theorem dX6_number_19 : decode cX6_number 19 = .ok (.iload_n 3, 1) := by decide +kernel
theorem dX6_number_20 : decode cX6_number 20 = .ok (.if_icmp .ne 6, 3) := by decide +kernel
theorem dX6_number_23 : decode cX6_number 23 = .ok (.bipush (-2), 2) := by decide +kernel
theorem dX6_number_25 : decode cX6_number 25 = .ok (.ireturn, 1) := by decide +kernel
theorem dX6_number_26 : decode cX6_number 26 = .ok (.aload_n 0, 1) := by decide +kernel
theorem dX6_number_27 : decode cX6_number 27 = .ok (.iload_n 1, 1) := by decide +kernel
theorem dX6_number_28 : decode cX6_number 28 = .ok (.invokevirtual 109, 3) := by decide +kernel
theorem dX6_number_31 : decode cX6_number 31 = .ok (.iload_n 2, 1) := by decide +kernel
theorem dX6_number_32 : decode cX6_number 32 = .ok (.iload_n 3, 1) := by decide +kernel
theorem dX6_number_33 : decode cX6_number 33 = .ok (.if_icmp .ge 7, 3) := by decide +kernel
theorem dX6_number_36 : decode cX6_number 36 = .ok (.iload_n 2, 1) := by decide +kernel
theorem dX6_number_37 : decode cX6_number 37 = .ok (.goto 4, 3) := by decide +kernel
theorem dX6_number_40 : decode cX6_number 40 = .ok (.iload_n 3, 1) := by decide +kernel
theorem dX6_number_41 : decode cX6_number 41 = .ok (.istore 4, 2) := by decide +kernel
theorem dX6_number_43 : decode cX6_number 43 = .ok (.iload_n 2, 1) := by decide +kernel
theorem dX6_number_44 : decode cX6_number 44 = .ok (.iload_n 3, 1) := by decide +kernel
theorem dX6_number_45 : decode cX6_number 45 = .ok (.iadd, 1) := by decide +kernel
theorem dX6_number_46 : decode cX6_number 46 = .ok (.iload 4, 2) := by decide +kernel
theorem dX6_number_48 : decode cX6_number 48 = .ok (.isub, 1) := by decide +kernel
theorem dX6_number_49 : decode cX6_number 49 = .ok (.istore 5, 2) := by decide +kernel
theorem dX6_number_51 : decode cX6_number 51 = .ok (.iconst 0, 1) := by decide +kernel
theorem dX6_number_52 : decode cX6_number 52 = .ok (.istore 6, 2) := by decide +kernel
theorem dX6_number_54 : decode cX6_number 54 = .ok (.iload 6, 2) := by decide +kernel
theorem dX6_number_56 : decode cX6_number 56 = .ok (.aload_n 0, 1) := by decide +kernel
theorem dX6_number_57 : decode cX6_number 57 = .ok (.getfield 105, 3) := by decide +kernel
theorem dX6_number_60 : decode cX6_number 60 = .ok (.if_icmp .ge 36, 3) := by decide +kernel
theorem dX6_number_63 : decode cX6_number 63 = .ok (.aload_n 0, 1) := by decide +kernel
theorem dX6_number_64 : decode cX6_number 64 = .ok (.getfield 22, 3) := by decide +kernel
theorem dX6_number_67 : decode cX6_number 67 = .ok (.iload 6, 2) := by decide +kernel
theorem dX6_number_69 : decode cX6_number 69 = .ok (.iaload, 1) := by decide +kernel
theorem dX6_number_70 : decode cX6_number 70 = .ok (.iload 4, 2) := by decide +kernel
theorem dX6_number_72 : decode cX6_number 72 = .ok (.if_icmp .ne 18, 3) := by decide +kernel
theorem dX6_number_75 : decode cX6_number 75 = .ok (.aload_n 0, 1) := by decide +kernel
theorem dX6_number_76 : decode cX6_number 76 = .ok (.getfield 25, 3) := by decide +kernel
theorem dX6_number_79 : decode cX6_number 79 = .ok (.iload 6, 2) := by decide +kernel
theorem dX6_number_81 : decode cX6_number 81 = .ok (.iaload, 1) := by decide +kernel
theorem dX6_number_82 : decode cX6_number 82 = .ok (.iload 5, 2) := by decide +kernel
theorem dX6_number_84 : decode cX6_number 84 = .ok (.if_icmp .ne 6, 3) := by decide +kernel
theorem dX6_number_87 : decode cX6_number 87 = .ok (.iload 6, 2) := by decide +kernel
theorem dX6_number_89 : decode cX6_number 89 = .ok (.ireturn, 1) := by decide +kernel
theorem dX6_number_90 : decode cX6_number 90 = .ok (.iinc 6 1, 3) := by decide +kernel
theorem dX6_number_93 : decode cX6_number 93 = .ok (.goto (-39), 3) := by decide +kernel
theorem dX6_number_96 : decode cX6_number 96 = .ok (.iconst (-1), 1) := by decide +kernel
theorem dX6_number_97 : decode cX6_number 97 = .ok (.ireturn, 1) := by decide +kernel
theorem dX6_outside_0 : decode cX6_outside 0 = .ok (.iconst 0, 1) := by decide +kernel
theorem dX6_outside_1 : decode cX6_outside 1 = .ok (.istore 4, 2) := by decide +kernel
theorem dX6_outside_3 : decode cX6_outside 3 = .ok (.iconst 0, 1) := by decide +kernel
theorem dX6_outside_4 : decode cX6_outside 4 = .ok (.istore 5, 2) := by decide +kernel
theorem dX6_outside_6 : decode cX6_outside 6 = .ok (.iload 5, 2) := by decide +kernel
theorem dX6_outside_8 : decode cX6_outside 8 = .ok (.aload_n 0, 1) := by decide +kernel
theorem dX6_outside_9 : decode cX6_outside 9 = .ok (.getfield 7, 3) := by decide +kernel
theorem dX6_outside_12 : decode cX6_outside 12 = .ok (.iload_n 1, 1) := by decide +kernel
theorem dX6_outside_13 : decode cX6_outside 13 = .ok (.iaload, 1) := by decide +kernel
theorem dX6_outside_14 : decode cX6_outside 14 = .ok (.if_icmp .ge 66, 3) := by decide +kernel
theorem dX6_outside_17 : decode cX6_outside 17 = .ok (.iload_n 2, 1) := by decide +kernel
theorem dX6_outside_18 : decode cX6_outside 18 = .ok (.iload 5, 2) := by decide +kernel
theorem dX6_outside_20 : decode cX6_outside 20 = .ok (.ishr, 1) := by decide +kernel
theorem dX6_outside_21 : decode cX6_outside 21 = .ok (.iconst 1, 1) := by decide +kernel
theorem dX6_outside_22 : decode cX6_outside 22 = .ok (.iand, 1) := by decide +kernel
theorem dX6_outside_23 : decode cX6_outside 23 = .ok (.iconst 1, 1) := by decide +kernel
theorem dX6_outside_24 : decode cX6_outside 24 = .ok (.if_icmp .ne 7, 3) := by decide +kernel
theorem dX6_outside_27 : decode cX6_outside 27 = .ok (.iconst 0, 1) := by decide +kernel
theorem dX6_outside_28 : decode cX6_outside 28 = .ok (.goto 20, 3) := by decide +kernel
theorem dX6_outside_31 : decode cX6_outside 31 = .ok (.aload_n 0, 1) := by decide +kernel
theorem dX6_outside_32 : decode cX6_outside 32 = .ok (.getfield 13, 3) := by decide +kernel
theorem dX6_outside_35 : decode cX6_outside 35 = .ok (.bipush 10, 2) := by decide +kernel
theorem dX6_outside_37 : decode cX6_outside 37 = .ok (.iload_n 1, 1) := by decide +kernel
theorem dX6_outside_38 : decode cX6_outside 38 = .ok (.imul, 1) := by decide +kernel
theorem dX6_outside_39 : decode cX6_outside 39 = .ok (.iload 5, 2) := by decide +kernel
theorem dX6_outside_41 : decode cX6_outside 41 = .ok (.iadd, 1) := by decide +kernel
theorem dX6_outside_42 : decode cX6_outside 42 = .ok (.iaload, 1) := by decide +kernel
theorem dX6_outside_43 : decode cX6_outside 43 = .ok (.iload_n 2, 1) := by decide +kernel
theorem dX6_outside_44 : decode cX6_outside 44 = .ok (.iand, 1) := by decide +kernel
theorem dX6_outside_45 : decode cX6_outside 45 = .ok (.invokestatic 73, 3) := by decide +kernel
theorem dX6_outside_48 : decode cX6_outside 48 = .ok (.istore 6, 2) := by decide +kernel
theorem dX6_outside_50 : decode cX6_outside 50 = .ok (.iload 4, 2) := by decide +kernel
theorem dX6_outside_52 : decode cX6_outside 52 = .ok (.iload_n 3, 1) := by decide +kernel
theorem dX6_outside_53 : decode cX6_outside 53 = .ok (.ifCond .eq 8, 3) := by decide +kernel
theorem dX6_outside_56 : decode cX6_outside 56 = .ok (.iload 6, 2) := by decide +kernel
theorem dX6_outside_58 : decode cX6_outside 58 = .ok (.goto 13, 3) := by decide +kernel
theorem dX6_outside_61 : decode cX6_outside 61 = .ok (.iload 6, 2) := by decide +kernel
theorem dX6_outside_63 : decode cX6_outside 63 = .ok (.ifCond .le 7, 3) := by decide +kernel
theorem dX6_outside_66 : decode cX6_outside 66 = .ok (.iconst 1, 1) := by decide +kernel
theorem dX6_outside_67 : decode cX6_outside 67 = .ok (.goto 4, 3) := by decide +kernel
theorem dX6_outside_70 : decode cX6_outside 70 = .ok (.iconst 0, 1) := by decide +kernel
theorem dX6_outside_71 : decode cX6_outside 71 = .ok (.iadd, 1) := by decide +kernel
theorem dX6_outside_72 : decode cX6_outside 72 = .ok (.istore 4, 2) := by decide +kernel
theorem dX6_outside_74 : decode cX6_outside 74 = .ok (.iinc 5 1, 3) := by decide +kernel
theorem dX6_outside_77 : decode cX6_outside 77 = .ok (.goto (-71), 3) := by decide +kernel
theorem dX6_outside_80 : decode cX6_outside 80 = .ok (.iload 4, 2) := by decide +kernel
theorem dX6_outside_82 : decode cX6_outside 82 = .ok (.ireturn, 1) := by decide +kernel
theorem dX6_growth_0 : decode cX6_growth 0 = .ok (.iload_n 1, 1) := by decide +kernel
theorem dX6_growth_1 : decode cX6_growth 1 = .ok (.invokestatic 69, 3) := by decide +kernel
theorem dX6_growth_4 : decode cX6_growth 4 = .ok (.ifCond .eq 12, 3) := by decide +kernel
theorem dX6_growth_7 : decode cX6_growth 7 = .ok (.iload_n 3, 1) := by decide +kernel
theorem dX6_growth_8 : decode cX6_growth 8 = .ok (.iconst 0, 1) := by decide +kernel
theorem dX6_growth_9 : decode cX6_growth 9 = .ok (.iconst 2, 1) := by decide +kernel
theorem dX6_growth_10 : decode cX6_growth 10 = .ok (.invokestatic 65, 3) := by decide +kernel
theorem dX6_growth_13 : decode cX6_growth 13 = .ok (.ifCond .ne 6, 3) := by decide +kernel
theorem dX6_growth_16 : decode cX6_growth 16 = .ok (.bipush (-2), 2) := by decide +kernel
theorem dX6_growth_18 : decode cX6_growth 18 = .ok (.ireturn, 1) := by decide +kernel
theorem dX6_growth_19 : decode cX6_growth 19 = .ok (.iconst 0, 1) := by decide +kernel
theorem dX6_growth_20 : decode cX6_growth 20 = .ok (.istore 4, 2) := by decide +kernel
theorem dX6_growth_22 : decode cX6_growth 22 = .ok (.iconst 1, 1) := by decide +kernel
theorem dX6_growth_23 : decode cX6_growth 23 = .ok (.istore 5, 2) := by decide +kernel
theorem dX6_growth_25 : decode cX6_growth 25 = .ok (.iload 5, 2) := by decide +kernel
theorem dX6_growth_27 : decode cX6_growth 27 = .ok (.iconst 1, 1) := by decide +kernel
theorem dX6_growth_28 : decode cX6_growth 28 = .ok (.aload_n 0, 1) := by decide +kernel
theorem dX6_growth_29 : decode cX6_growth 29 = .ok (.getfield 7, 3) := by decide +kernel
theorem dX6_growth_32 : decode cX6_growth 32 = .ok (.iload_n 1, 1) := by decide +kernel
theorem dX6_growth_33 : decode cX6_growth 33 = .ok (.iaload, 1) := by decide +kernel
theorem dX6_growth_34 : decode cX6_growth 34 = .ok (.ishl, 1) := by decide +kernel
theorem dX6_growth_35 : decode cX6_growth 35 = .ok (.if_icmp .ge 82, 3) := by decide +kernel
theorem dX6_growth_38 : decode cX6_growth 38 = .ok (.iconst 2, 1) := by decide +kernel
theorem dX6_growth_39 : decode cX6_growth 39 = .ok (.iload 5, 2) := by decide +kernel
theorem dX6_growth_41 : decode cX6_growth 41 = .ok (.invokestatic 73, 3) := by decide +kernel
theorem dX6_growth_44 : decode cX6_growth 44 = .ok (.imul, 1) := by decide +kernel
theorem dX6_growth_45 : decode cX6_growth 45 = .ok (.aload_n 0, 1) := by decide +kernel
theorem dX6_growth_46 : decode cX6_growth 46 = .ok (.getfield 7, 3) := by decide +kernel
theorem dX6_growth_49 : decode cX6_growth 49 = .ok (.iload_n 1, 1) := by decide +kernel
theorem dX6_growth_50 : decode cX6_growth 50 = .ok (.iaload, 1) := by decide +kernel
theorem dX6_growth_51 : decode cX6_growth 51 = .ok (.if_icmp .gt 60, 3) := by decide +kernel
theorem dX6_growth_54 : decode cX6_growth 54 = .ok (.iload 4, 2) := by decide +kernel
theorem dX6_growth_56 : decode cX6_growth 56 = .ok (.ifCond .eq 34, 3) := by decide +kernel
theorem dX6_growth_59 : decode cX6_growth 59 = .ok (.aload_n 0, 1) := by decide +kernel
theorem dX6_growth_60 : decode cX6_growth 60 = .ok (.iload_n 1, 1) := by decide +kernel
theorem dX6_growth_61 : decode cX6_growth 61 = .ok (.iload 5, 2) := by decide +kernel
theorem dX6_growth_63 : decode cX6_growth 63 = .ok (.iload_n 2, 1) := by decide +kernel
theorem dX6_growth_64 : decode cX6_growth 64 = .ok (.invokevirtual 113, 3) := by decide +kernel
theorem dX6_growth_67 : decode cX6_growth 67 = .ok (.iload 4, 2) := by decide +kernel
theorem dX6_growth_69 : decode cX6_growth 69 = .ok (.invokestatic 73, 3) := by decide +kernel
theorem dX6_growth_72 : decode cX6_growth 72 = .ok (.imul, 1) := by decide +kernel
theorem dX6_growth_73 : decode cX6_growth 73 = .ok (.aload_n 0, 1) := by decide +kernel
theorem dX6_growth_74 : decode cX6_growth 74 = .ok (.iload_n 1, 1) := by decide +kernel
theorem dX6_growth_75 : decode cX6_growth 75 = .ok (.iload 4, 2) := by decide +kernel
theorem dX6_growth_77 : decode cX6_growth 77 = .ok (.iload_n 2, 1) := by decide +kernel
theorem dX6_growth_78 : decode cX6_growth 78 = .ok (.invokevirtual 113, 3) := by decide +kernel
theorem dX6_growth_81 : decode cX6_growth 81 = .ok (.iload 5, 2) := by decide +kernel
theorem dX6_growth_83 : decode cX6_growth 83 = .ok (.invokestatic 73, 3) := by decide +kernel
theorem dX6_growth_86 : decode cX6_growth 86 = .ok (.imul, 1) := by decide +kernel
theorem dX6_growth_87 : decode cX6_growth 87 = .ok (.if_icmp .ge 7, 3) := by decide +kernel
theorem dX6_growth_90 : decode cX6_growth 90 = .ok (.iconst 1, 1) := by decide +kernel
theorem dX6_growth_91 : decode cX6_growth 91 = .ok (.goto 4, 3) := by decide +kernel
theorem dX6_growth_94 : decode cX6_growth 94 = .ok (.iconst 0, 1) := by decide +kernel
theorem dX6_growth_95 : decode cX6_growth 95 = .ok (.istore 6, 2) := by decide +kernel
theorem dX6_growth_97 : decode cX6_growth 97 = .ok (.iload 6, 2) := by decide +kernel
theorem dX6_growth_99 : decode cX6_growth 99 = .ok (.ifCond .eq 8, 3) := by decide +kernel
theorem dX6_growth_102 : decode cX6_growth 102 = .ok (.iload 5, 2) := by decide +kernel
theorem dX6_growth_104 : decode cX6_growth 104 = .ok (.goto 5, 3) := by decide +kernel
theorem dX6_growth_107 : decode cX6_growth 107 = .ok (.iload 4, 2) := by decide +kernel
theorem dX6_growth_109 : decode cX6_growth 109 = .ok (.istore 4, 2) := by decide +kernel
theorem dX6_growth_111 : decode cX6_growth 111 = .ok (.iinc 5 1, 3) := by decide +kernel
theorem dX6_growth_114 : decode cX6_growth 114 = .ok (.goto (-89), 3) := by decide +kernel
theorem dX6_growth_117 : decode cX6_growth 117 = .ok (.iload 4, 2) := by decide +kernel
theorem dX6_growth_119 : decode cX6_growth 119 = .ok (.ifCond .ne 7, 3) := by decide +kernel
theorem dX6_growth_122 : decode cX6_growth 122 = .ok (.iconst (-1), 1) := by decide +kernel
theorem dX6_growth_123 : decode cX6_growth 123 = .ok (.goto 33, 3) := by decide +kernel
theorem dX6_growth_126 : decode cX6_growth 126 = .ok (.iload_n 3, 1) := by decide +kernel
theorem dX6_growth_127 : decode cX6_growth 127 = .ok (.ifCond .ne 14, 3) := by decide +kernel
theorem dX6_growth_130 : decode cX6_growth 130 = .ok (.aload_n 0, 1) := by decide +kernel
theorem dX6_growth_131 : decode cX6_growth 131 = .ok (.iload_n 1, 1) := by decide +kernel
theorem dX6_growth_132 : decode cX6_growth 132 = .ok (.iload 4, 2) := by decide +kernel
theorem dX6_growth_134 : decode cX6_growth 134 = .ok (.iload_n 2, 1) := by decide +kernel
theorem dX6_growth_135 : decode cX6_growth 135 = .ok (.invokevirtual 113, 3) := by decide +kernel
theorem dX6_growth_138 : decode cX6_growth 138 = .ok (.goto 18, 3) := by decide +kernel
theorem dX6_growth_141 : decode cX6_growth 141 = .ok (.iload_n 3, 1) := by decide +kernel
theorem dX6_growth_142 : decode cX6_growth 142 = .ok (.iconst 1, 1) := by decide +kernel
theorem dX6_growth_143 : decode cX6_growth 143 = .ok (.if_icmp .ne 11, 3) := by decide +kernel
theorem dX6_growth_146 : decode cX6_growth 146 = .ok (.iload 4, 2) := by decide +kernel
theorem dX6_growth_148 : decode cX6_growth 148 = .ok (.invokestatic 73, 3) := by decide +kernel
theorem dX6_growth_151 : decode cX6_growth 151 = .ok (.goto 5, 3) := by decide +kernel
theorem dX6_growth_154 : decode cX6_growth 154 = .ok (.iload 4, 2) := by decide +kernel
theorem dX6_growth_156 : decode cX6_growth 156 = .ok (.ireturn, 1) := by decide +kernel
theorem dX6_layTable_0 : decode cX6_layTable 0 = .ok (.aload_n 0, 1) := by decide +kernel
theorem dX6_layTable_1 : decode cX6_layTable 1 = .ok (.iload_n 1, 1) := by decide +kernel
theorem dX6_layTable_2 : decode cX6_layTable 2 = .ok (.invokevirtual 109, 3) := by decide +kernel
theorem dX6_layTable_5 : decode cX6_layTable 5 = .ok (.iconst 0, 1) := by decide +kernel
theorem dX6_layTable_6 : decode cX6_layTable 6 = .ok (.istore_n 3, 1) := by decide +kernel
theorem dX6_layTable_7 : decode cX6_layTable 7 = .ok (.iload_n 3, 1) := by decide +kernel
theorem dX6_layTable_8 : decode cX6_layTable 8 = .ok (.bipush 100, 2) := by decide +kernel
theorem dX6_layTable_10 : decode cX6_layTable 10 = .ok (.if_icmp .ge 16, 3) := by decide +kernel
theorem dX6_layTable_13 : decode cX6_layTable 13 = .ok (.aload_n 0, 1) := by decide +kernel
theorem dX6_layTable_14 : decode cX6_layTable 14 = .ok (.getfield 28, 3) := by decide +kernel
theorem dX6_layTable_17 : decode cX6_layTable 17 = .ok (.iload_n 3, 1) := by decide +kernel
theorem dX6_layTable_18 : decode cX6_layTable 18 = .ok (.lconst 0, 1) := by decide +kernel
theorem dX6_layTable_19 : decode cX6_layTable 19 = .ok (.lastore, 1) := by decide +kernel
theorem dX6_layTable_20 : decode cX6_layTable 20 = .ok (.iinc 3 1, 3) := by decide +kernel
theorem dX6_layTable_23 : decode cX6_layTable 23 = .ok (.goto (-16), 3) := by decide +kernel
theorem dX6_layTable_26 : decode cX6_layTable 26 = .ok (.iconst 0, 1) := by decide +kernel
theorem dX6_layTable_27 : decode cX6_layTable 27 = .ok (.istore_n 3, 1) := by decide +kernel
theorem dX6_layTable_28 : decode cX6_layTable 28 = .ok (.iload_n 3, 1) := by decide +kernel
theorem dX6_layTable_29 : decode cX6_layTable 29 = .ok (.aload_n 0, 1) := by decide +kernel
theorem dX6_layTable_30 : decode cX6_layTable 30 = .ok (.getfield 105, 3) := by decide +kernel
theorem dX6_layTable_33 : decode cX6_layTable 33 = .ok (.if_icmp .ge 79, 3) := by decide +kernel
theorem dX6_layTable_36 : decode cX6_layTable 36 = .ok (.iload_n 3, 1) := by decide +kernel
theorem dX6_layTable_37 : decode cX6_layTable 37 = .ok (.bipush 31, 2) := by decide +kernel
theorem dX6_layTable_39 : decode cX6_layTable 39 = .ok (.if_icmp .ge 18, 3) := by decide +kernel
theorem dX6_layTable_42 : decode cX6_layTable 42 = .ok (.iload_n 2, 1) := by decide +kernel
theorem dX6_layTable_43 : decode cX6_layTable 43 = .ok (.iload_n 3, 1) := by decide +kernel
theorem dX6_layTable_44 : decode cX6_layTable 44 = .ok (.ishr, 1) := by decide +kernel
theorem dX6_layTable_45 : decode cX6_layTable 45 = .ok (.iconst 1, 1) := by decide +kernel
theorem dX6_layTable_46 : decode cX6_layTable 46 = .ok (.iand, 1) := by decide +kernel
theorem dX6_layTable_47 : decode cX6_layTable 47 = .ok (.iconst 1, 1) := by decide +kernel
theorem dX6_layTable_48 : decode cX6_layTable 48 = .ok (.if_icmp .ne 9, 3) := by decide +kernel
theorem dX6_layTable_51 : decode cX6_layTable 51 = .ok (.ldc2_w 117, 3) := by decide +kernel
theorem dX6_layTable_54 : decode cX6_layTable 54 = .ok (.goto 4, 3) := by decide +kernel
theorem dX6_layTable_57 : decode cX6_layTable 57 = .ok (.lconst 1, 1) := by decide +kernel
theorem dX6_layTable_58 : decode cX6_layTable 58 = .ok (.lstore 4, 2) := by decide +kernel
theorem dX6_layTable_60 : decode cX6_layTable 60 = .ok (.aload_n 0, 1) := by decide +kernel
theorem dX6_layTable_61 : decode cX6_layTable 61 = .ok (.getfield 28, 3) := by decide +kernel
theorem dX6_layTable_64 : decode cX6_layTable 64 = .ok (.bipush 10, 2) := by decide +kernel
theorem dX6_layTable_66 : decode cX6_layTable 66 = .ok (.aload_n 0, 1) := by decide +kernel
theorem dX6_layTable_67 : decode cX6_layTable 67 = .ok (.getfield 22, 3) := by decide +kernel
theorem dX6_layTable_70 : decode cX6_layTable 70 = .ok (.iload_n 3, 1) := by decide +kernel
theorem dX6_layTable_71 : decode cX6_layTable 71 = .ok (.iaload, 1) := by decide +kernel
theorem dX6_layTable_72 : decode cX6_layTable 72 = .ok (.imul, 1) := by decide +kernel
theorem dX6_layTable_73 : decode cX6_layTable 73 = .ok (.aload_n 0, 1) := by decide +kernel
theorem dX6_layTable_74 : decode cX6_layTable 74 = .ok (.getfield 25, 3) := by decide +kernel
theorem dX6_layTable_77 : decode cX6_layTable 77 = .ok (.iload_n 3, 1) := by decide +kernel
theorem dX6_layTable_78 : decode cX6_layTable 78 = .ok (.iaload, 1) := by decide +kernel
theorem dX6_layTable_79 : decode cX6_layTable 79 = .ok (.iadd, 1) := by decide +kernel
theorem dX6_layTable_80 : decode cX6_layTable 80 = .ok (.lload 4, 2) := by decide +kernel
theorem dX6_layTable_82 : decode cX6_layTable 82 = .ok (.lastore, 1) := by decide +kernel
theorem dX6_layTable_83 : decode cX6_layTable 83 = .ok (.aload_n 0, 1) := by decide +kernel
theorem dX6_layTable_84 : decode cX6_layTable 84 = .ok (.getfield 28, 3) := by decide +kernel
theorem dX6_layTable_87 : decode cX6_layTable 87 = .ok (.bipush 10, 2) := by decide +kernel
theorem dX6_layTable_89 : decode cX6_layTable 89 = .ok (.aload_n 0, 1) := by decide +kernel
theorem dX6_layTable_90 : decode cX6_layTable 90 = .ok (.getfield 25, 3) := by decide +kernel
theorem dX6_layTable_93 : decode cX6_layTable 93 = .ok (.iload_n 3, 1) := by decide +kernel
theorem dX6_layTable_94 : decode cX6_layTable 94 = .ok (.iaload, 1) := by decide +kernel
theorem dX6_layTable_95 : decode cX6_layTable 95 = .ok (.imul, 1) := by decide +kernel
theorem dX6_layTable_96 : decode cX6_layTable 96 = .ok (.aload_n 0, 1) := by decide +kernel
theorem dX6_layTable_97 : decode cX6_layTable 97 = .ok (.getfield 22, 3) := by decide +kernel
theorem dX6_layTable_100 : decode cX6_layTable 100 = .ok (.iload_n 3, 1) := by decide +kernel
theorem dX6_layTable_101 : decode cX6_layTable 101 = .ok (.iaload, 1) := by decide +kernel
theorem dX6_layTable_102 : decode cX6_layTable 102 = .ok (.iadd, 1) := by decide +kernel
theorem dX6_layTable_103 : decode cX6_layTable 103 = .ok (.lload 4, 2) := by decide +kernel
theorem dX6_layTable_105 : decode cX6_layTable 105 = .ok (.lastore, 1) := by decide +kernel
theorem dX6_layTable_106 : decode cX6_layTable 106 = .ok (.iinc 3 1, 3) := by decide +kernel
theorem dX6_layTable_109 : decode cX6_layTable 109 = .ok (.goto (-81), 3) := by decide +kernel
theorem dX6_layTable_112 : decode cX6_layTable 112 = .ok (.return_, 1) := by decide +kernel
theorem dX6_layPolynomial_0 : decode cX6_layPolynomial 0 = .ok (.iconst 0, 1) := by decide +kernel
theorem dX6_layPolynomial_1 : decode cX6_layPolynomial 1 = .ok (.istore_n 2, 1) := by decide +kernel
theorem dX6_layPolynomial_2 : decode cX6_layPolynomial 2 = .ok (.iload_n 2, 1) := by decide +kernel
theorem dX6_layPolynomial_3 : decode cX6_layPolynomial 3 = .ok (.bipush 100, 2) := by decide +kernel
theorem dX6_layPolynomial_5 : decode cX6_layPolynomial 5 = .ok (.if_icmp .ge 31, 3) := by decide +kernel
theorem dX6_layPolynomial_8 : decode cX6_layPolynomial 8 = .ok (.aload_n 0, 1) := by decide +kernel
theorem dX6_layPolynomial_9 : decode cX6_layPolynomial 9 = .ok (.getfield 32, 3) := by decide +kernel
theorem dX6_layPolynomial_12 : decode cX6_layPolynomial 12 = .ok (.iload_n 2, 1) := by decide +kernel
theorem dX6_layPolynomial_13 : decode cX6_layPolynomial 13 = .ok (.iload_n 2, 1) := by decide +kernel
theorem dX6_layPolynomial_14 : decode cX6_layPolynomial 14 = .ok (.bipush 10, 2) := by decide +kernel
theorem dX6_layPolynomial_16 : decode cX6_layPolynomial 16 = .ok (.idiv, 1) := by decide +kernel
theorem dX6_layPolynomial_17 : decode cX6_layPolynomial 17 = .ok (.iload_n 2, 1) := by decide +kernel
theorem dX6_layPolynomial_18 : decode cX6_layPolynomial 18 = .ok (.bipush 10, 2) := by decide +kernel
theorem dX6_layPolynomial_20 : decode cX6_layPolynomial 20 = .ok (.irem, 1) := by decide +kernel
theorem dX6_layPolynomial_21 : decode cX6_layPolynomial 21 = .ok (.if_icmp .ne 7, 3) := by decide +kernel
theorem dX6_layPolynomial_24 : decode cX6_layPolynomial 24 = .ok (.lconst 1, 1) := by decide +kernel
theorem dX6_layPolynomial_25 : decode cX6_layPolynomial 25 = .ok (.goto 4, 3) := by decide +kernel
theorem dX6_layPolynomial_28 : decode cX6_layPolynomial 28 = .ok (.lconst 0, 1) := by decide +kernel
theorem dX6_layPolynomial_29 : decode cX6_layPolynomial 29 = .ok (.lastore, 1) := by decide +kernel
theorem dX6_layPolynomial_30 : decode cX6_layPolynomial 30 = .ok (.iinc 2 1, 3) := by decide +kernel
theorem dX6_layPolynomial_33 : decode cX6_layPolynomial 33 = .ok (.goto (-31), 3) := by decide +kernel
theorem dX6_layPolynomial_36 : decode cX6_layPolynomial 36 = .ok (.aload_n 0, 1) := by decide +kernel
theorem dX6_layPolynomial_37 : decode cX6_layPolynomial 37 = .ok (.getfield 38, 3) := by decide +kernel
theorem dX6_layPolynomial_40 : decode cX6_layPolynomial 40 = .ok (.iload_n 1, 1) := by decide +kernel
theorem dX6_layPolynomial_41 : decode cX6_layPolynomial 41 = .ok (.lconst 1, 1) := by decide +kernel
theorem dX6_layPolynomial_42 : decode cX6_layPolynomial 42 = .ok (.lastore, 1) := by decide +kernel
theorem dX6_layPolynomial_43 : decode cX6_layPolynomial 43 = .ok (.iconst 1, 1) := by decide +kernel
theorem dX6_layPolynomial_44 : decode cX6_layPolynomial 44 = .ok (.istore_n 2, 1) := by decide +kernel
theorem dX6_layPolynomial_45 : decode cX6_layPolynomial 45 = .ok (.iload_n 2, 1) := by decide +kernel
theorem dX6_layPolynomial_46 : decode cX6_layPolynomial 46 = .ok (.iload_n 1, 1) := by decide +kernel
theorem dX6_layPolynomial_47 : decode cX6_layPolynomial 47 = .ok (.if_icmp .gt 222, 3) := by decide +kernel
theorem dX6_layPolynomial_50 : decode cX6_layPolynomial 50 = .ok (.iconst 0, 1) := by decide +kernel
theorem dX6_layPolynomial_51 : decode cX6_layPolynomial 51 = .ok (.istore_n 3, 1) := by decide +kernel
theorem dX6_layPolynomial_52 : decode cX6_layPolynomial 52 = .ok (.iload_n 3, 1) := by decide +kernel
theorem dX6_layPolynomial_53 : decode cX6_layPolynomial 53 = .ok (.iload_n 1, 1) := by decide +kernel
theorem dX6_layPolynomial_54 : decode cX6_layPolynomial 54 = .ok (.if_icmp .ge 87, 3) := by decide +kernel
theorem dX6_layPolynomial_57 : decode cX6_layPolynomial 57 = .ok (.iconst 0, 1) := by decide +kernel
theorem dX6_layPolynomial_58 : decode cX6_layPolynomial 58 = .ok (.istore 4, 2) := by decide +kernel
theorem dX6_layPolynomial_60 : decode cX6_layPolynomial 60 = .ok (.iload 4, 2) := by decide +kernel
theorem dX6_layPolynomial_62 : decode cX6_layPolynomial 62 = .ok (.iload_n 1, 1) := by decide +kernel
theorem dX6_layPolynomial_63 : decode cX6_layPolynomial 63 = .ok (.if_icmp .ge 72, 3) := by decide +kernel
theorem dX6_layPolynomial_66 : decode cX6_layPolynomial 66 = .ok (.lconst 0, 1) := by decide +kernel
theorem dX6_layPolynomial_67 : decode cX6_layPolynomial 67 = .ok (.lstore 5, 2) := by decide +kernel
theorem dX6_layPolynomial_69 : decode cX6_layPolynomial 69 = .ok (.iconst 0, 1) := by decide +kernel
theorem dX6_layPolynomial_70 : decode cX6_layPolynomial 70 = .ok (.istore 7, 2) := by decide +kernel
theorem dX6_layPolynomial_72 : decode cX6_layPolynomial 72 = .ok (.iload 7, 2) := by decide +kernel
theorem dX6_layPolynomial_74 : decode cX6_layPolynomial 74 = .ok (.iload_n 1, 1) := by decide +kernel
theorem dX6_layPolynomial_75 : decode cX6_layPolynomial 75 = .ok (.if_icmp .ge 40, 3) := by decide +kernel
theorem dX6_layPolynomial_78 : decode cX6_layPolynomial 78 = .ok (.lload 5, 2) := by decide +kernel
theorem dX6_layPolynomial_80 : decode cX6_layPolynomial 80 = .ok (.aload_n 0, 1) := by decide +kernel
theorem dX6_layPolynomial_81 : decode cX6_layPolynomial 81 = .ok (.getfield 28, 3) := by decide +kernel
theorem dX6_layPolynomial_84 : decode cX6_layPolynomial 84 = .ok (.bipush 10, 2) := by decide +kernel
theorem dX6_layPolynomial_86 : decode cX6_layPolynomial 86 = .ok (.iload_n 3, 1) := by decide +kernel
theorem dX6_layPolynomial_87 : decode cX6_layPolynomial 87 = .ok (.imul, 1) := by decide +kernel
theorem dX6_layPolynomial_88 : decode cX6_layPolynomial 88 = .ok (.iload 7, 2) := by decide +kernel
theorem dX6_layPolynomial_90 : decode cX6_layPolynomial 90 = .ok (.iadd, 1) := by decide +kernel
theorem dX6_layPolynomial_91 : decode cX6_layPolynomial 91 = .ok (.laload, 1) := by decide +kernel
theorem dX6_layPolynomial_92 : decode cX6_layPolynomial 92 = .ok (.aload_n 0, 1) := by decide +kernel
theorem dX6_layPolynomial_93 : decode cX6_layPolynomial 93 = .ok (.getfield 32, 3) := by decide +kernel
theorem dX6_layPolynomial_96 : decode cX6_layPolynomial 96 = .ok (.bipush 10, 2) := by decide +kernel
theorem dX6_layPolynomial_98 : decode cX6_layPolynomial 98 = .ok (.iload 7, 2) := by decide +kernel
theorem dX6_layPolynomial_100 : decode cX6_layPolynomial 100 = .ok (.imul, 1) := by decide +kernel
theorem dX6_layPolynomial_101 : decode cX6_layPolynomial 101 = .ok (.iload 4, 2) := by decide +kernel
theorem dX6_layPolynomial_103 : decode cX6_layPolynomial 103 = .ok (.iadd, 1) := by decide +kernel
theorem dX6_layPolynomial_104 : decode cX6_layPolynomial 104 = .ok (.laload, 1) := by decide +kernel
theorem dX6_layPolynomial_105 : decode cX6_layPolynomial 105 = .ok (.lmul, 1) := by decide +kernel
theorem dX6_layPolynomial_106 : decode cX6_layPolynomial 106 = .ok (.ladd, 1) := by decide +kernel
theorem dX6_layPolynomial_107 : decode cX6_layPolynomial 107 = .ok (.lstore 5, 2) := by decide +kernel
theorem dX6_layPolynomial_109 : decode cX6_layPolynomial 109 = .ok (.iinc 7 1, 3) := by decide +kernel
theorem dX6_layPolynomial_112 : decode cX6_layPolynomial 112 = .ok (.goto (-40), 3) := by decide +kernel
theorem dX6_layPolynomial_115 : decode cX6_layPolynomial 115 = .ok (.aload_n 0, 1) := by decide +kernel
theorem dX6_layPolynomial_116 : decode cX6_layPolynomial 116 = .ok (.getfield 35, 3) := by decide +kernel
theorem dX6_layPolynomial_119 : decode cX6_layPolynomial 119 = .ok (.bipush 10, 2) := by decide +kernel
theorem dX6_layPolynomial_121 : decode cX6_layPolynomial 121 = .ok (.iload_n 3, 1) := by decide +kernel
theorem dX6_layPolynomial_122 : decode cX6_layPolynomial 122 = .ok (.imul, 1) := by decide +kernel
theorem dX6_layPolynomial_123 : decode cX6_layPolynomial 123 = .ok (.iload 4, 2) := by decide +kernel
theorem dX6_layPolynomial_125 : decode cX6_layPolynomial 125 = .ok (.iadd, 1) := by decide +kernel
theorem dX6_layPolynomial_126 : decode cX6_layPolynomial 126 = .ok (.lload 5, 2) := by decide +kernel
theorem dX6_layPolynomial_128 : decode cX6_layPolynomial 128 = .ok (.lastore, 1) := by decide +kernel
theorem dX6_layPolynomial_129 : decode cX6_layPolynomial 129 = .ok (.iinc 4 1, 3) := by decide +kernel
theorem dX6_layPolynomial_132 : decode cX6_layPolynomial 132 = .ok (.goto (-72), 3) := by decide +kernel
theorem dX6_layPolynomial_135 : decode cX6_layPolynomial 135 = .ok (.iinc 3 1, 3) := by decide +kernel
theorem dX6_layPolynomial_138 : decode cX6_layPolynomial 138 = .ok (.goto (-86), 3) := by decide +kernel
theorem dX6_layPolynomial_141 : decode cX6_layPolynomial 141 = .ok (.lconst 0, 1) := by decide +kernel
theorem dX6_layPolynomial_142 : decode cX6_layPolynomial 142 = .ok (.lstore_n 3, 1) := by decide +kernel
theorem dX6_layPolynomial_143 : decode cX6_layPolynomial 143 = .ok (.iconst 0, 1) := by decide +kernel
theorem dX6_layPolynomial_144 : decode cX6_layPolynomial 144 = .ok (.istore 5, 2) := by decide +kernel
theorem dX6_layPolynomial_146 : decode cX6_layPolynomial 146 = .ok (.iload 5, 2) := by decide +kernel
theorem dX6_layPolynomial_148 : decode cX6_layPolynomial 148 = .ok (.iload_n 1, 1) := by decide +kernel
theorem dX6_layPolynomial_149 : decode cX6_layPolynomial 149 = .ok (.if_icmp .ge 25, 3) := by decide +kernel
theorem dX6_layPolynomial_152 : decode cX6_layPolynomial 152 = .ok (.lload_n 3, 1) := by decide +kernel
theorem dX6_layPolynomial_153 : decode cX6_layPolynomial 153 = .ok (.aload_n 0, 1) := by decide +kernel
theorem dX6_layPolynomial_154 : decode cX6_layPolynomial 154 = .ok (.getfield 35, 3) := by decide +kernel
theorem dX6_layPolynomial_157 : decode cX6_layPolynomial 157 = .ok (.bipush 10, 2) := by decide +kernel
theorem dX6_layPolynomial_159 : decode cX6_layPolynomial 159 = .ok (.iload 5, 2) := by decide +kernel
theorem dX6_layPolynomial_161 : decode cX6_layPolynomial 161 = .ok (.imul, 1) := by decide +kernel
theorem dX6_layPolynomial_162 : decode cX6_layPolynomial 162 = .ok (.iload 5, 2) := by decide +kernel
theorem dX6_layPolynomial_164 : decode cX6_layPolynomial 164 = .ok (.iadd, 1) := by decide +kernel
theorem dX6_layPolynomial_165 : decode cX6_layPolynomial 165 = .ok (.laload, 1) := by decide +kernel
theorem dX6_layPolynomial_166 : decode cX6_layPolynomial 166 = .ok (.ladd, 1) := by decide +kernel
theorem dX6_layPolynomial_167 : decode cX6_layPolynomial 167 = .ok (.lstore_n 3, 1) := by decide +kernel
theorem dX6_layPolynomial_168 : decode cX6_layPolynomial 168 = .ok (.iinc 5 1, 3) := by decide +kernel
theorem dX6_layPolynomial_171 : decode cX6_layPolynomial 171 = .ok (.goto (-25), 3) := by decide +kernel
theorem dX6_layPolynomial_174 : decode cX6_layPolynomial 174 = .ok (.aload_n 0, 1) := by decide +kernel
theorem dX6_layPolynomial_175 : decode cX6_layPolynomial 175 = .ok (.getfield 38, 3) := by decide +kernel
theorem dX6_layPolynomial_178 : decode cX6_layPolynomial 178 = .ok (.iload_n 1, 1) := by decide +kernel
theorem dX6_layPolynomial_179 : decode cX6_layPolynomial 179 = .ok (.iload_n 2, 1) := by decide +kernel
theorem dX6_layPolynomial_180 : decode cX6_layPolynomial 180 = .ok (.isub, 1) := by decide +kernel
theorem dX6_layPolynomial_181 : decode cX6_layPolynomial 181 = .ok (.lload_n 3, 1) := by decide +kernel
theorem dX6_layPolynomial_182 : decode cX6_layPolynomial 182 = .ok (.lneg, 1) := by decide +kernel
theorem dX6_layPolynomial_183 : decode cX6_layPolynomial 183 = .ok (.iload_n 2, 1) := by decide +kernel
theorem dX6_layPolynomial_184 : decode cX6_layPolynomial 184 = .ok (.i2l, 1) := by decide +kernel
theorem dX6_layPolynomial_185 : decode cX6_layPolynomial 185 = .ok (.ldiv, 1) := by decide +kernel
theorem dX6_layPolynomial_186 : decode cX6_layPolynomial 186 = .ok (.lastore, 1) := by decide +kernel
theorem dX6_layPolynomial_187 : decode cX6_layPolynomial 187 = .ok (.iconst 0, 1) := by decide +kernel
theorem dX6_layPolynomial_188 : decode cX6_layPolynomial 188 = .ok (.istore 5, 2) := by decide +kernel
theorem dX6_layPolynomial_190 : decode cX6_layPolynomial 190 = .ok (.iload 5, 2) := by decide +kernel
theorem dX6_layPolynomial_192 : decode cX6_layPolynomial 192 = .ok (.iload_n 1, 1) := by decide +kernel
theorem dX6_layPolynomial_193 : decode cX6_layPolynomial 193 = .ok (.if_icmp .ge 70, 3) := by decide +kernel
theorem dX6_layPolynomial_196 : decode cX6_layPolynomial 196 = .ok (.iconst 0, 1) := by decide +kernel
theorem dX6_layPolynomial_197 : decode cX6_layPolynomial 197 = .ok (.istore 6, 2) := by decide +kernel
theorem dX6_layPolynomial_199 : decode cX6_layPolynomial 199 = .ok (.iload 6, 2) := by decide +kernel
theorem dX6_layPolynomial_201 : decode cX6_layPolynomial 201 = .ok (.iload_n 1, 1) := by decide +kernel
theorem dX6_layPolynomial_202 : decode cX6_layPolynomial 202 = .ok (.if_icmp .ge 55, 3) := by decide +kernel
theorem dX6_layPolynomial_205 : decode cX6_layPolynomial 205 = .ok (.aload_n 0, 1) := by decide +kernel
theorem dX6_layPolynomial_206 : decode cX6_layPolynomial 206 = .ok (.getfield 32, 3) := by decide +kernel
theorem dX6_layPolynomial_209 : decode cX6_layPolynomial 209 = .ok (.bipush 10, 2) := by decide +kernel
theorem dX6_layPolynomial_211 : decode cX6_layPolynomial 211 = .ok (.iload 5, 2) := by decide +kernel
theorem dX6_layPolynomial_213 : decode cX6_layPolynomial 213 = .ok (.imul, 1) := by decide +kernel
theorem dX6_layPolynomial_214 : decode cX6_layPolynomial 214 = .ok (.iload 6, 2) := by decide +kernel
theorem dX6_layPolynomial_216 : decode cX6_layPolynomial 216 = .ok (.iadd, 1) := by decide +kernel
theorem dX6_layPolynomial_217 : decode cX6_layPolynomial 217 = .ok (.aload_n 0, 1) := by decide +kernel
theorem dX6_layPolynomial_218 : decode cX6_layPolynomial 218 = .ok (.getfield 35, 3) := by decide +kernel
theorem dX6_layPolynomial_221 : decode cX6_layPolynomial 221 = .ok (.bipush 10, 2) := by decide +kernel
theorem dX6_layPolynomial_223 : decode cX6_layPolynomial 223 = .ok (.iload 5, 2) := by decide +kernel
theorem dX6_layPolynomial_225 : decode cX6_layPolynomial 225 = .ok (.imul, 1) := by decide +kernel
theorem dX6_layPolynomial_226 : decode cX6_layPolynomial 226 = .ok (.iload 6, 2) := by decide +kernel
theorem dX6_layPolynomial_228 : decode cX6_layPolynomial 228 = .ok (.iadd, 1) := by decide +kernel
theorem dX6_layPolynomial_229 : decode cX6_layPolynomial 229 = .ok (.laload, 1) := by decide +kernel
theorem dX6_layPolynomial_230 : decode cX6_layPolynomial 230 = .ok (.iload 5, 2) := by decide +kernel
theorem dX6_layPolynomial_232 : decode cX6_layPolynomial 232 = .ok (.iload 6, 2) := by decide +kernel
theorem dX6_layPolynomial_234 : decode cX6_layPolynomial 234 = .ok (.if_icmp .ne 14, 3) := by decide +kernel
theorem dX6_layPolynomial_237 : decode cX6_layPolynomial 237 = .ok (.aload_n 0, 1) := by decide +kernel
theorem dX6_layPolynomial_238 : decode cX6_layPolynomial 238 = .ok (.getfield 38, 3) := by decide +kernel
theorem dX6_layPolynomial_241 : decode cX6_layPolynomial 241 = .ok (.iload_n 1, 1) := by decide +kernel
theorem dX6_layPolynomial_242 : decode cX6_layPolynomial 242 = .ok (.iload_n 2, 1) := by decide +kernel
theorem dX6_layPolynomial_243 : decode cX6_layPolynomial 243 = .ok (.isub, 1) := by decide +kernel
theorem dX6_layPolynomial_244 : decode cX6_layPolynomial 244 = .ok (.laload, 1) := by decide +kernel
theorem dX6_layPolynomial_245 : decode cX6_layPolynomial 245 = .ok (.goto 4, 3) := by decide +kernel
theorem dX6_layPolynomial_248 : decode cX6_layPolynomial 248 = .ok (.lconst 0, 1) := by decide +kernel
theorem dX6_layPolynomial_249 : decode cX6_layPolynomial 249 = .ok (.ladd, 1) := by decide +kernel
theorem dX6_layPolynomial_250 : decode cX6_layPolynomial 250 = .ok (.lastore, 1) := by decide +kernel
theorem dX6_layPolynomial_251 : decode cX6_layPolynomial 251 = .ok (.iinc 6 1, 3) := by decide +kernel
theorem dX6_layPolynomial_254 : decode cX6_layPolynomial 254 = .ok (.goto (-55), 3) := by decide +kernel
theorem dX6_layPolynomial_257 : decode cX6_layPolynomial 257 = .ok (.iinc 5 1, 3) := by decide +kernel
theorem dX6_layPolynomial_260 : decode cX6_layPolynomial 260 = .ok (.goto (-70), 3) := by decide +kernel
theorem dX6_layPolynomial_263 : decode cX6_layPolynomial 263 = .ok (.iinc 2 1, 3) := by decide +kernel
theorem dX6_layPolynomial_266 : decode cX6_layPolynomial 266 = .ok (.goto (-221), 3) := by decide +kernel
theorem dX6_layPolynomial_269 : decode cX6_layPolynomial 269 = .ok (.return_, 1) := by decide +kernel
theorem dX6_move_0 : decode cX6_move 0 = .ok (.iconst 0, 1) := by decide +kernel
theorem dX6_move_1 : decode cX6_move 1 = .ok (.istore_n 3, 1) := by decide +kernel
theorem dX6_move_2 : decode cX6_move 2 = .ok (.iload_n 3, 1) := by decide +kernel
theorem dX6_move_3 : decode cX6_move 3 = .ok (.iload_n 1, 1) := by decide +kernel
theorem dX6_move_4 : decode cX6_move 4 = .ok (.if_icmp .gt 16, 3) := by decide +kernel
theorem dX6_move_7 : decode cX6_move 7 = .ok (.aload_n 0, 1) := by decide +kernel
theorem dX6_move_8 : decode cX6_move 8 = .ok (.getfield 41, 3) := by decide +kernel
theorem dX6_move_11 : decode cX6_move 11 = .ok (.iload_n 3, 1) := by decide +kernel
theorem dX6_move_12 : decode cX6_move 12 = .ok (.lconst 0, 1) := by decide +kernel
theorem dX6_move_13 : decode cX6_move 13 = .ok (.lastore, 1) := by decide +kernel
theorem dX6_move_14 : decode cX6_move 14 = .ok (.iinc 3 1, 3) := by decide +kernel
theorem dX6_move_17 : decode cX6_move 17 = .ok (.goto (-15), 3) := by decide +kernel
theorem dX6_move_20 : decode cX6_move 20 = .ok (.lconst 1, 1) := by decide +kernel
theorem dX6_move_21 : decode cX6_move 21 = .ok (.lstore_n 3, 1) := by decide +kernel
theorem dX6_move_22 : decode cX6_move 22 = .ok (.iload_n 1, 1) := by decide +kernel
theorem dX6_move_23 : decode cX6_move 23 = .ok (.istore 5, 2) := by decide +kernel
theorem dX6_move_25 : decode cX6_move 25 = .ok (.iload 5, 2) := by decide +kernel
theorem dX6_move_27 : decode cX6_move 27 = .ok (.ifCond .lt 83, 3) := by decide +kernel
theorem dX6_move_30 : decode cX6_move 30 = .ok (.iload_n 1, 1) := by decide +kernel
theorem dX6_move_31 : decode cX6_move 31 = .ok (.istore 6, 2) := by decide +kernel
theorem dX6_move_33 : decode cX6_move 33 = .ok (.iload 6, 2) := by decide +kernel
theorem dX6_move_35 : decode cX6_move 35 = .ok (.ifCond .lt 45, 3) := by decide +kernel
theorem dX6_move_38 : decode cX6_move 38 = .ok (.aload_n 0, 1) := by decide +kernel
theorem dX6_move_39 : decode cX6_move 39 = .ok (.getfield 41, 3) := by decide +kernel
theorem dX6_move_42 : decode cX6_move 42 = .ok (.iload 6, 2) := by decide +kernel
theorem dX6_move_44 : decode cX6_move 44 = .ok (.aload_n 0, 1) := by decide +kernel
theorem dX6_move_45 : decode cX6_move 45 = .ok (.getfield 41, 3) := by decide +kernel
theorem dX6_move_48 : decode cX6_move 48 = .ok (.iload 6, 2) := by decide +kernel
theorem dX6_move_50 : decode cX6_move 50 = .ok (.laload, 1) := by decide +kernel
theorem dX6_move_51 : decode cX6_move 51 = .ok (.iload_n 2, 1) := by decide +kernel
theorem dX6_move_52 : decode cX6_move 52 = .ok (.i2l, 1) := by decide +kernel
theorem dX6_move_53 : decode cX6_move 53 = .ok (.lmul, 1) := by decide +kernel
theorem dX6_move_54 : decode cX6_move 54 = .ok (.iload 6, 2) := by decide +kernel
theorem dX6_move_56 : decode cX6_move 56 = .ok (.ifCond .le 15, 3) := by decide +kernel
theorem dX6_move_59 : decode cX6_move 59 = .ok (.aload_n 0, 1) := by decide +kernel
theorem dX6_move_60 : decode cX6_move 60 = .ok (.getfield 41, 3) := by decide +kernel
theorem dX6_move_63 : decode cX6_move 63 = .ok (.iload 6, 2) := by decide +kernel
theorem dX6_move_65 : decode cX6_move 65 = .ok (.iconst 1, 1) := by decide +kernel
theorem dX6_move_66 : decode cX6_move 66 = .ok (.isub, 1) := by decide +kernel
theorem dX6_move_67 : decode cX6_move 67 = .ok (.laload, 1) := by decide +kernel
theorem dX6_move_68 : decode cX6_move 68 = .ok (.goto 4, 3) := by decide +kernel
theorem dX6_move_71 : decode cX6_move 71 = .ok (.lconst 0, 1) := by decide +kernel
theorem dX6_move_72 : decode cX6_move 72 = .ok (.ladd, 1) := by decide +kernel
theorem dX6_move_73 : decode cX6_move 73 = .ok (.lastore, 1) := by decide +kernel
theorem dX6_move_74 : decode cX6_move 74 = .ok (.iinc 6 (-1), 3) := by decide +kernel
theorem dX6_move_77 : decode cX6_move 77 = .ok (.goto (-44), 3) := by decide +kernel
theorem dX6_move_80 : decode cX6_move 80 = .ok (.aload_n 0, 1) := by decide +kernel
theorem dX6_move_81 : decode cX6_move 81 = .ok (.getfield 41, 3) := by decide +kernel
theorem dX6_move_84 : decode cX6_move 84 = .ok (.iconst 0, 1) := by decide +kernel
theorem dX6_move_85 : decode cX6_move 85 = .ok (.dup2, 1) := by decide +kernel
theorem dX6_move_86 : decode cX6_move 86 = .ok (.laload, 1) := by decide +kernel
theorem dX6_move_87 : decode cX6_move 87 = .ok (.aload_n 0, 1) := by decide +kernel
theorem dX6_move_88 : decode cX6_move 88 = .ok (.getfield 38, 3) := by decide +kernel
theorem dX6_move_91 : decode cX6_move 91 = .ok (.iload 5, 2) := by decide +kernel
theorem dX6_move_93 : decode cX6_move 93 = .ok (.laload, 1) := by decide +kernel
theorem dX6_move_94 : decode cX6_move 94 = .ok (.lload_n 3, 1) := by decide +kernel
theorem dX6_move_95 : decode cX6_move 95 = .ok (.lmul, 1) := by decide +kernel
theorem dX6_move_96 : decode cX6_move 96 = .ok (.ladd, 1) := by decide +kernel
theorem dX6_move_97 : decode cX6_move 97 = .ok (.lastore, 1) := by decide +kernel
theorem dX6_move_98 : decode cX6_move 98 = .ok (.lload_n 3, 1) := by decide +kernel
theorem dX6_move_99 : decode cX6_move 99 = .ok (.ldc2_w 119, 3) := by decide +kernel
theorem dX6_move_102 : decode cX6_move 102 = .ok (.lmul, 1) := by decide +kernel
theorem dX6_move_103 : decode cX6_move 103 = .ok (.lstore_n 3, 1) := by decide +kernel
theorem dX6_move_104 : decode cX6_move 104 = .ok (.iinc 5 (-1), 3) := by decide +kernel
theorem dX6_move_107 : decode cX6_move 107 = .ok (.goto (-82), 3) := by decide +kernel
theorem dX6_move_110 : decode cX6_move 110 = .ok (.return_, 1) := by decide +kernel
theorem dX6_aboveOf_0 : decode cX6_aboveOf 0 = .ok (.aload_n 0, 1) := by decide +kernel
theorem dX6_aboveOf_1 : decode cX6_aboveOf 1 = .ok (.iload_n 1, 1) := by decide +kernel
theorem dX6_aboveOf_2 : decode cX6_aboveOf 2 = .ok (.iload_n 2, 1) := by decide +kernel
theorem dX6_aboveOf_3 : decode cX6_aboveOf 3 = .ok (.invokevirtual 121, 3) := by decide +kernel
theorem dX6_aboveOf_6 : decode cX6_aboveOf 6 = .ok (.iconst 0, 1) := by decide +kernel
theorem dX6_aboveOf_7 : decode cX6_aboveOf 7 = .ok (.istore_n 3, 1) := by decide +kernel
theorem dX6_aboveOf_8 : decode cX6_aboveOf 8 = .ok (.lconst 0, 1) := by decide +kernel
theorem dX6_aboveOf_9 : decode cX6_aboveOf 9 = .ok (.lstore 4, 2) := by decide +kernel
theorem dX6_aboveOf_11 : decode cX6_aboveOf 11 = .ok (.iload_n 1, 1) := by decide +kernel
theorem dX6_aboveOf_12 : decode cX6_aboveOf 12 = .ok (.istore 6, 2) := by decide +kernel
theorem dX6_aboveOf_14 : decode cX6_aboveOf 14 = .ok (.iload 6, 2) := by decide +kernel
theorem dX6_aboveOf_16 : decode cX6_aboveOf 16 = .ok (.ifCond .lt 77, 3) := by decide +kernel
theorem dX6_aboveOf_19 : decode cX6_aboveOf 19 = .ok (.aload_n 0, 1) := by decide +kernel
theorem dX6_aboveOf_20 : decode cX6_aboveOf 20 = .ok (.getfield 41, 3) := by decide +kernel
theorem dX6_aboveOf_23 : decode cX6_aboveOf 23 = .ok (.iload 6, 2) := by decide +kernel
theorem dX6_aboveOf_25 : decode cX6_aboveOf 25 = .ok (.laload, 1) := by decide +kernel
theorem dX6_aboveOf_26 : decode cX6_aboveOf 26 = .ok (.lconst 0, 1) := by decide +kernel
theorem dX6_aboveOf_27 : decode cX6_aboveOf 27 = .ok (.lcmp, 1) := by decide +kernel
theorem dX6_aboveOf_28 : decode cX6_aboveOf 28 = .ok (.ifCond .eq 59, 3) := by decide +kernel
theorem dX6_aboveOf_31 : decode cX6_aboveOf 31 = .ok (.iload_n 3, 1) := by decide +kernel
theorem dX6_aboveOf_32 : decode cX6_aboveOf 32 = .ok (.lload 4, 2) := by decide +kernel
theorem dX6_aboveOf_34 : decode cX6_aboveOf 34 = .ok (.lconst 0, 1) := by decide +kernel
theorem dX6_aboveOf_35 : decode cX6_aboveOf 35 = .ok (.lcmp, 1) := by decide +kernel
theorem dX6_aboveOf_36 : decode cX6_aboveOf 36 = .ok (.ifCond .eq 39, 3) := by decide +kernel
theorem dX6_aboveOf_39 : decode cX6_aboveOf 39 = .ok (.lload 4, 2) := by decide +kernel
theorem dX6_aboveOf_41 : decode cX6_aboveOf 41 = .ok (.lconst 0, 1) := by decide +kernel
theorem dX6_aboveOf_42 : decode cX6_aboveOf 42 = .ok (.lcmp, 1) := by decide +kernel
theorem dX6_aboveOf_43 : decode cX6_aboveOf 43 = .ok (.ifCond .ge 7, 3) := by decide +kernel
theorem dX6_aboveOf_46 : decode cX6_aboveOf 46 = .ok (.iconst 1, 1) := by decide +kernel
theorem dX6_aboveOf_47 : decode cX6_aboveOf 47 = .ok (.goto 4, 3) := by decide +kernel
theorem dX6_aboveOf_50 : decode cX6_aboveOf 50 = .ok (.iconst 0, 1) := by decide +kernel
theorem dX6_aboveOf_51 : decode cX6_aboveOf 51 = .ok (.aload_n 0, 1) := by decide +kernel
theorem dX6_aboveOf_52 : decode cX6_aboveOf 52 = .ok (.getfield 41, 3) := by decide +kernel
theorem dX6_aboveOf_55 : decode cX6_aboveOf 55 = .ok (.iload 6, 2) := by decide +kernel
theorem dX6_aboveOf_57 : decode cX6_aboveOf 57 = .ok (.laload, 1) := by decide +kernel
theorem dX6_aboveOf_58 : decode cX6_aboveOf 58 = .ok (.lconst 0, 1) := by decide +kernel
theorem dX6_aboveOf_59 : decode cX6_aboveOf 59 = .ok (.lcmp, 1) := by decide +kernel
theorem dX6_aboveOf_60 : decode cX6_aboveOf 60 = .ok (.ifCond .ge 7, 3) := by decide +kernel
theorem dX6_aboveOf_63 : decode cX6_aboveOf 63 = .ok (.iconst 1, 1) := by decide +kernel
theorem dX6_aboveOf_64 : decode cX6_aboveOf 64 = .ok (.goto 4, 3) := by decide +kernel
theorem dX6_aboveOf_67 : decode cX6_aboveOf 67 = .ok (.iconst 0, 1) := by decide +kernel
theorem dX6_aboveOf_68 : decode cX6_aboveOf 68 = .ok (.if_icmp .eq 7, 3) := by decide +kernel
theorem dX6_aboveOf_71 : decode cX6_aboveOf 71 = .ok (.iconst 1, 1) := by decide +kernel
theorem dX6_aboveOf_72 : decode cX6_aboveOf 72 = .ok (.goto 4, 3) := by decide +kernel
theorem dX6_aboveOf_75 : decode cX6_aboveOf 75 = .ok (.iconst 0, 1) := by decide +kernel
theorem dX6_aboveOf_76 : decode cX6_aboveOf 76 = .ok (.iadd, 1) := by decide +kernel
theorem dX6_aboveOf_77 : decode cX6_aboveOf 77 = .ok (.istore_n 3, 1) := by decide +kernel
theorem dX6_aboveOf_78 : decode cX6_aboveOf 78 = .ok (.aload_n 0, 1) := by decide +kernel
theorem dX6_aboveOf_79 : decode cX6_aboveOf 79 = .ok (.getfield 41, 3) := by decide +kernel
theorem dX6_aboveOf_82 : decode cX6_aboveOf 82 = .ok (.iload 6, 2) := by decide +kernel
theorem dX6_aboveOf_84 : decode cX6_aboveOf 84 = .ok (.laload, 1) := by decide +kernel
theorem dX6_aboveOf_85 : decode cX6_aboveOf 85 = .ok (.lstore 4, 2) := by decide +kernel
theorem dX6_aboveOf_87 : decode cX6_aboveOf 87 = .ok (.iinc 6 (-1), 3) := by decide +kernel
theorem dX6_aboveOf_90 : decode cX6_aboveOf 90 = .ok (.goto (-76), 3) := by decide +kernel
theorem dX6_aboveOf_93 : decode cX6_aboveOf 93 = .ok (.iload_n 3, 1) := by decide +kernel
theorem dX6_aboveOf_94 : decode cX6_aboveOf 94 = .ok (.ireturn, 1) := by decide +kernel
theorem dX6_justOf_0 : decode cX6_justOf 0 = .ok (.aload_n 0, 1) := by decide +kernel
theorem dX6_justOf_1 : decode cX6_justOf 1 = .ok (.iload_n 1, 1) := by decide +kernel
theorem dX6_justOf_2 : decode cX6_justOf 2 = .ok (.iload_n 2, 1) := by decide +kernel
theorem dX6_justOf_3 : decode cX6_justOf 3 = .ok (.invokevirtual 121, 3) := by decide +kernel
theorem dX6_justOf_6 : decode cX6_justOf 6 = .ok (.iconst 0, 1) := by decide +kernel
theorem dX6_justOf_7 : decode cX6_justOf 7 = .ok (.istore_n 3, 1) := by decide +kernel
theorem dX6_justOf_8 : decode cX6_justOf 8 = .ok (.aload_n 0, 1) := by decide +kernel
theorem dX6_justOf_9 : decode cX6_justOf 9 = .ok (.getfield 41, 3) := by decide +kernel
theorem dX6_justOf_12 : decode cX6_justOf 12 = .ok (.iload_n 3, 1) := by decide +kernel
theorem dX6_justOf_13 : decode cX6_justOf 13 = .ok (.laload, 1) := by decide +kernel
theorem dX6_justOf_14 : decode cX6_justOf 14 = .ok (.lconst 0, 1) := by decide +kernel
theorem dX6_justOf_15 : decode cX6_justOf 15 = .ok (.lcmp, 1) := by decide +kernel
theorem dX6_justOf_16 : decode cX6_justOf 16 = .ok (.ifCond .ne 9, 3) := by decide +kernel
theorem dX6_justOf_19 : decode cX6_justOf 19 = .ok (.iinc 3 1, 3) := by decide +kernel
theorem dX6_justOf_22 : decode cX6_justOf 22 = .ok (.goto (-14), 3) := by decide +kernel
theorem dX6_justOf_25 : decode cX6_justOf 25 = .ok (.iload_n 3, 1) := by decide +kernel
theorem dX6_justOf_26 : decode cX6_justOf 26 = .ok (.ireturn, 1) := by decide +kernel
theorem dX6_isAsked_0 : decode cX6_isAsked 0 = .ok (.iload_n 1, 1) := by decide +kernel
theorem dX6_isAsked_1 : decode cX6_isAsked 1 = .ok (.invokestatic 69, 3) := by decide +kernel
theorem dX6_isAsked_4 : decode cX6_isAsked 4 = .ok (.ifCond .eq 22, 3) := by decide +kernel
theorem dX6_isAsked_7 : decode cX6_isAsked 7 = .ok (.iload_n 2, 1) := by decide +kernel
theorem dX6_isAsked_8 : decode cX6_isAsked 8 = .ok (.ifCond .lt 18, 3) := by decide +kernel
theorem dX6_isAsked_11 : decode cX6_isAsked 11 = .ok (.iload_n 3, 1) := by decide +kernel
theorem dX6_isAsked_12 : decode cX6_isAsked 12 = .ok (.bipush (-40), 2) := by decide +kernel
theorem dX6_isAsked_14 : decode cX6_isAsked 14 = .ok (.bipush 40, 2) := by decide +kernel
theorem dX6_isAsked_16 : decode cX6_isAsked 16 = .ok (.invokestatic 65, 3) := by decide +kernel
theorem dX6_isAsked_19 : decode cX6_isAsked 19 = .ok (.ifCond .eq 7, 3) := by decide +kernel
theorem dX6_isAsked_22 : decode cX6_isAsked 22 = .ok (.iconst 1, 1) := by decide +kernel
theorem dX6_isAsked_23 : decode cX6_isAsked 23 = .ok (.goto 4, 3) := by decide +kernel
theorem dX6_isAsked_26 : decode cX6_isAsked 26 = .ok (.iconst 0, 1) := by decide +kernel
theorem dX6_isAsked_27 : decode cX6_isAsked 27 = .ok (.ireturn, 1) := by decide +kernel
theorem dX6_layOwn_0 : decode cX6_layOwn 0 = .ok (.aload_n 0, 1) := by decide +kernel
theorem dX6_layOwn_1 : decode cX6_layOwn 1 = .ok (.iload_n 1, 1) := by decide +kernel
theorem dX6_layOwn_2 : decode cX6_layOwn 2 = .ok (.iload_n 2, 1) := by decide +kernel
theorem dX6_layOwn_3 : decode cX6_layOwn 3 = .ok (.invokevirtual 124, 3) := by decide +kernel
theorem dX6_layOwn_6 : decode cX6_layOwn 6 = .ok (.aload_n 0, 1) := by decide +kernel
theorem dX6_layOwn_7 : decode cX6_layOwn 7 = .ok (.aload_n 0, 1) := by decide +kernel
theorem dX6_layOwn_8 : decode cX6_layOwn 8 = .ok (.getfield 7, 3) := by decide +kernel
theorem dX6_layOwn_11 : decode cX6_layOwn 11 = .ok (.iload_n 1, 1) := by decide +kernel
theorem dX6_layOwn_12 : decode cX6_layOwn 12 = .ok (.iaload, 1) := by decide +kernel
theorem dX6_layOwn_13 : decode cX6_layOwn 13 = .ok (.invokevirtual 127, 3) := by decide +kernel
theorem dX6_layOwn_16 : decode cX6_layOwn 16 = .ok (.return_, 1) := by decide +kernel
theorem dX6_more_0 : decode cX6_more 0 = .ok (.aload_n 0, 1) := by decide +kernel
theorem dX6_more_1 : decode cX6_more 1 = .ok (.iload_n 1, 1) := by decide +kernel
theorem dX6_more_2 : decode cX6_more 2 = .ok (.iload_n 2, 1) := by decide +kernel
theorem dX6_more_3 : decode cX6_more 3 = .ok (.iload_n 3, 1) := by decide +kernel
theorem dX6_more_4 : decode cX6_more 4 = .ok (.invokevirtual 130, 3) := by decide +kernel
theorem dX6_more_7 : decode cX6_more 7 = .ok (.ifCond .ne 6, 3) := by decide +kernel
theorem dX6_more_10 : decode cX6_more 10 = .ok (.bipush (-2), 2) := by decide +kernel
theorem dX6_more_12 : decode cX6_more 12 = .ok (.ireturn, 1) := by decide +kernel
theorem dX6_more_13 : decode cX6_more 13 = .ok (.aload_n 0, 1) := by decide +kernel
theorem dX6_more_14 : decode cX6_more 14 = .ok (.iload_n 1, 1) := by decide +kernel
theorem dX6_more_15 : decode cX6_more 15 = .ok (.iload_n 2, 1) := by decide +kernel
theorem dX6_more_16 : decode cX6_more 16 = .ok (.invokevirtual 133, 3) := by decide +kernel
theorem dX6_more_19 : decode cX6_more 19 = .ok (.aload_n 0, 1) := by decide +kernel
theorem dX6_more_20 : decode cX6_more 20 = .ok (.aload_n 0, 1) := by decide +kernel
theorem dX6_more_21 : decode cX6_more 21 = .ok (.getfield 7, 3) := by decide +kernel
theorem dX6_more_24 : decode cX6_more 24 = .ok (.iload_n 1, 1) := by decide +kernel
theorem dX6_more_25 : decode cX6_more 25 = .ok (.iaload, 1) := by decide +kernel
theorem dX6_more_26 : decode cX6_more 26 = .ok (.iload_n 3, 1) := by decide +kernel
theorem dX6_more_27 : decode cX6_more 27 = .ok (.invokevirtual 136, 3) := by decide +kernel
theorem dX6_more_30 : decode cX6_more 30 = .ok (.ireturn, 1) := by decide +kernel
theorem dX6_just_0 : decode cX6_just 0 = .ok (.aload_n 0, 1) := by decide +kernel
theorem dX6_just_1 : decode cX6_just 1 = .ok (.iload_n 1, 1) := by decide +kernel
theorem dX6_just_2 : decode cX6_just 2 = .ok (.iload_n 2, 1) := by decide +kernel
theorem dX6_just_3 : decode cX6_just 3 = .ok (.iload_n 3, 1) := by decide +kernel
theorem dX6_just_4 : decode cX6_just 4 = .ok (.invokevirtual 130, 3) := by decide +kernel
theorem dX6_just_7 : decode cX6_just 7 = .ok (.ifCond .ne 6, 3) := by decide +kernel
theorem dX6_just_10 : decode cX6_just 10 = .ok (.bipush (-2), 2) := by decide +kernel
theorem dX6_just_12 : decode cX6_just 12 = .ok (.ireturn, 1) := by decide +kernel
theorem dX6_just_13 : decode cX6_just 13 = .ok (.aload_n 0, 1) := by decide +kernel
theorem dX6_just_14 : decode cX6_just 14 = .ok (.iload_n 1, 1) := by decide +kernel
theorem dX6_just_15 : decode cX6_just 15 = .ok (.iload_n 2, 1) := by decide +kernel
theorem dX6_just_16 : decode cX6_just 16 = .ok (.invokevirtual 133, 3) := by decide +kernel
theorem dX6_just_19 : decode cX6_just 19 = .ok (.aload_n 0, 1) := by decide +kernel
theorem dX6_just_20 : decode cX6_just 20 = .ok (.aload_n 0, 1) := by decide +kernel
theorem dX6_just_21 : decode cX6_just 21 = .ok (.getfield 7, 3) := by decide +kernel
theorem dX6_just_24 : decode cX6_just 24 = .ok (.iload_n 1, 1) := by decide +kernel
theorem dX6_just_25 : decode cX6_just 25 = .ok (.iaload, 1) := by decide +kernel
theorem dX6_just_26 : decode cX6_just 26 = .ok (.iload_n 3, 1) := by decide +kernel
theorem dX6_just_27 : decode cX6_just 27 = .ok (.invokevirtual 139, 3) := by decide +kernel
theorem dX6_just_30 : decode cX6_just 30 = .ok (.ireturn, 1) := by decide +kernel
theorem dX6_second_0 : decode cX6_second 0 = .ok (.iload_n 1, 1) := by decide +kernel
theorem dX6_second_1 : decode cX6_second 1 = .ok (.invokestatic 69, 3) := by decide +kernel
theorem dX6_second_4 : decode cX6_second 4 = .ok (.ifCond .ne 6, 3) := by decide +kernel
theorem dX6_second_7 : decode cX6_second 7 = .ok (.bipush (-2), 2) := by decide +kernel
theorem dX6_second_9 : decode cX6_second 9 = .ok (.ireturn, 1) := by decide +kernel
theorem dX6_second_10 : decode cX6_second 10 = .ok (.aload_n 0, 1) := by decide +kernel
theorem dX6_second_11 : decode cX6_second 11 = .ok (.iload_n 1, 1) := by decide +kernel
theorem dX6_second_12 : decode cX6_second 12 = .ok (.iconst 0, 1) := by decide +kernel
theorem dX6_second_13 : decode cX6_second 13 = .ok (.invokevirtual 133, 3) := by decide +kernel
theorem dX6_second_16 : decode cX6_second 16 = .ok (.bipush (-20), 2) := by decide +kernel
theorem dX6_second_18 : decode cX6_second 18 = .ok (.istore_n 2, 1) := by decide +kernel
theorem dX6_second_19 : decode cX6_second 19 = .ok (.aload_n 0, 1) := by decide +kernel
theorem dX6_second_20 : decode cX6_second 20 = .ok (.aload_n 0, 1) := by decide +kernel
theorem dX6_second_21 : decode cX6_second 21 = .ok (.getfield 7, 3) := by decide +kernel
theorem dX6_second_24 : decode cX6_second 24 = .ok (.iload_n 1, 1) := by decide +kernel
theorem dX6_second_25 : decode cX6_second 25 = .ok (.iaload, 1) := by decide +kernel
theorem dX6_second_26 : decode cX6_second 26 = .ok (.iload_n 2, 1) := by decide +kernel
theorem dX6_second_27 : decode cX6_second 27 = .ok (.invokevirtual 136, 3) := by decide +kernel
theorem dX6_second_30 : decode cX6_second 30 = .ok (.iconst 1, 1) := by decide +kernel
theorem dX6_second_31 : decode cX6_second 31 = .ok (.if_icmp .le 9, 3) := by decide +kernel
theorem dX6_second_34 : decode cX6_second 34 = .ok (.iinc 2 1, 3) := by decide +kernel
theorem dX6_second_37 : decode cX6_second 37 = .ok (.goto (-18), 3) := by decide +kernel
theorem dX6_second_40 : decode cX6_second 40 = .ok (.iload_n 2, 1) := by decide +kernel
theorem dX6_second_41 : decode cX6_second 41 = .ok (.ireturn, 1) := by decide +kernel
theorem dX6_spanOf_0 : decode cX6_spanOf 0 = .ok (.aload_n 0, 1) := by decide +kernel
theorem dX6_spanOf_1 : decode cX6_spanOf 1 = .ok (.iload_n 1, 1) := by decide +kernel
theorem dX6_spanOf_2 : decode cX6_spanOf 2 = .ok (.iload_n 2, 1) := by decide +kernel
theorem dX6_spanOf_3 : decode cX6_spanOf 3 = .ok (.invokevirtual 133, 3) := by decide +kernel
theorem dX6_spanOf_6 : decode cX6_spanOf 6 = .ok (.aload_n 0, 1) := by decide +kernel
theorem dX6_spanOf_7 : decode cX6_spanOf 7 = .ok (.getfield 7, 3) := by decide +kernel
theorem dX6_spanOf_10 : decode cX6_spanOf 10 = .ok (.iload_n 1, 1) := by decide +kernel
theorem dX6_spanOf_11 : decode cX6_spanOf 11 = .ok (.iaload, 1) := by decide +kernel
theorem dX6_spanOf_12 : decode cX6_spanOf 12 = .ok (.istore_n 3, 1) := by decide +kernel
theorem dX6_spanOf_13 : decode cX6_spanOf 13 = .ok (.iconst 0, 1) := by decide +kernel
theorem dX6_spanOf_14 : decode cX6_spanOf 14 = .ok (.istore 4, 2) := by decide +kernel
theorem dX6_spanOf_16 : decode cX6_spanOf 16 = .ok (.aload_n 0, 1) := by decide +kernel
theorem dX6_spanOf_17 : decode cX6_spanOf 17 = .ok (.iload_n 3, 1) := by decide +kernel
theorem dX6_spanOf_18 : decode cX6_spanOf 18 = .ok (.iload 4, 2) := by decide +kernel
theorem dX6_spanOf_20 : decode cX6_spanOf 20 = .ok (.invokevirtual 136, 3) := by decide +kernel
theorem dX6_spanOf_23 : decode cX6_spanOf 23 = .ok (.ifCond .gt 24, 3) := by decide +kernel
theorem dX6_spanOf_26 : decode cX6_spanOf 26 = .ok (.aload_n 0, 1) := by decide +kernel
theorem dX6_spanOf_27 : decode cX6_spanOf 27 = .ok (.iload_n 3, 1) := by decide +kernel
theorem dX6_spanOf_28 : decode cX6_spanOf 28 = .ok (.iload 4, 2) := by decide +kernel
theorem dX6_spanOf_30 : decode cX6_spanOf 30 = .ok (.ineg, 1) := by decide +kernel
theorem dX6_spanOf_31 : decode cX6_spanOf 31 = .ok (.invokevirtual 136, 3) := by decide +kernel
theorem dX6_spanOf_34 : decode cX6_spanOf 34 = .ok (.aload_n 0, 1) := by decide +kernel
theorem dX6_spanOf_35 : decode cX6_spanOf 35 = .ok (.iload_n 3, 1) := by decide +kernel
theorem dX6_spanOf_36 : decode cX6_spanOf 36 = .ok (.iload 4, 2) := by decide +kernel
theorem dX6_spanOf_38 : decode cX6_spanOf 38 = .ok (.ineg, 1) := by decide +kernel
theorem dX6_spanOf_39 : decode cX6_spanOf 39 = .ok (.invokevirtual 139, 3) := by decide +kernel
theorem dX6_spanOf_42 : decode cX6_spanOf 42 = .ok (.iadd, 1) := by decide +kernel
theorem dX6_spanOf_43 : decode cX6_spanOf 43 = .ok (.iload_n 3, 1) := by decide +kernel
theorem dX6_spanOf_44 : decode cX6_spanOf 44 = .ok (.if_icmp .ge 9, 3) := by decide +kernel
theorem dX6_spanOf_47 : decode cX6_spanOf 47 = .ok (.iinc 4 1, 3) := by decide +kernel
theorem dX6_spanOf_50 : decode cX6_spanOf 50 = .ok (.goto (-34), 3) := by decide +kernel
theorem dX6_spanOf_53 : decode cX6_spanOf 53 = .ok (.iload 4, 2) := by decide +kernel
theorem dX6_spanOf_55 : decode cX6_spanOf 55 = .ok (.ireturn, 1) := by decide +kernel
theorem dX6_span_0 : decode cX6_span 0 = .ok (.iload_n 1, 1) := by decide +kernel
theorem dX6_span_1 : decode cX6_span 1 = .ok (.invokestatic 69, 3) := by decide +kernel
theorem dX6_span_4 : decode cX6_span 4 = .ok (.ifCond .eq 16, 3) := by decide +kernel
theorem dX6_span_7 : decode cX6_span 7 = .ok (.iload_n 2, 1) := by decide +kernel
theorem dX6_span_8 : decode cX6_span 8 = .ok (.ifCond .lt 12, 3) := by decide +kernel
theorem dX6_span_11 : decode cX6_span 11 = .ok (.aload_n 0, 1) := by decide +kernel
theorem dX6_span_12 : decode cX6_span 12 = .ok (.iload_n 1, 1) := by decide +kernel
theorem dX6_span_13 : decode cX6_span 13 = .ok (.iload_n 2, 1) := by decide +kernel
theorem dX6_span_14 : decode cX6_span 14 = .ok (.invokevirtual 142, 3) := by decide +kernel
theorem dX6_span_17 : decode cX6_span 17 = .ok (.goto 5, 3) := by decide +kernel
theorem dX6_span_20 : decode cX6_span 20 = .ok (.bipush (-2), 2) := by decide +kernel
theorem dX6_span_22 : decode cX6_span 22 = .ok (.ireturn, 1) := by decide +kernel
theorem dX6_best_0 : decode cX6_best 0 = .ok (.iload_n 1, 1) := by decide +kernel
theorem dX6_best_1 : decode cX6_best 1 = .ok (.invokestatic 69, 3) := by decide +kernel
theorem dX6_best_4 : decode cX6_best 4 = .ok (.ifCond .ne 6, 3) := by decide +kernel
theorem dX6_best_7 : decode cX6_best 7 = .ok (.bipush (-2), 2) := by decide +kernel
theorem dX6_best_9 : decode cX6_best 9 = .ok (.ireturn, 1) := by decide +kernel
theorem dX6_best_10 : decode cX6_best 10 = .ok (.aload_n 0, 1) := by decide +kernel
theorem dX6_best_11 : decode cX6_best 11 = .ok (.iload_n 1, 1) := by decide +kernel
theorem dX6_best_12 : decode cX6_best 12 = .ok (.invokevirtual 92, 3) := by decide +kernel
theorem dX6_best_15 : decode cX6_best 15 = .ok (.istore_n 2, 1) := by decide +kernel
theorem dX6_best_16 : decode cX6_best 16 = .ok (.iload_n 2, 1) := by decide +kernel
theorem dX6_best_17 : decode cX6_best 17 = .ok (.bipush 9, 2) := by decide +kernel
theorem dX6_best_19 : decode cX6_best 19 = .ok (.if_icmp .le 6, 3) := by decide +kernel
theorem dX6_best_22 : decode cX6_best 22 = .ok (.bipush (-3), 2) := by decide +kernel
theorem dX6_best_24 : decode cX6_best 24 = .ok (.ireturn, 1) := by decide +kernel
theorem dX6_best_25 : decode cX6_best 25 = .ok (.iconst 0, 1) := by decide +kernel
theorem dX6_best_26 : decode cX6_best 26 = .ok (.istore_n 3, 1) := by decide +kernel
theorem dX6_best_27 : decode cX6_best 27 = .ok (.aload_n 0, 1) := by decide +kernel
theorem dX6_best_28 : decode cX6_best 28 = .ok (.iload_n 1, 1) := by decide +kernel
theorem dX6_best_29 : decode cX6_best 29 = .ok (.iconst 0, 1) := by decide +kernel
theorem dX6_best_30 : decode cX6_best 30 = .ok (.invokevirtual 142, 3) := by decide +kernel
theorem dX6_best_33 : decode cX6_best 33 = .ok (.istore 4, 2) := by decide +kernel
theorem dX6_best_35 : decode cX6_best 35 = .ok (.iconst 1, 1) := by decide +kernel
theorem dX6_best_36 : decode cX6_best 36 = .ok (.istore 5, 2) := by decide +kernel
theorem dX6_best_38 : decode cX6_best 38 = .ok (.iload 5, 2) := by decide +kernel
theorem dX6_best_40 : decode cX6_best 40 = .ok (.iconst 1, 1) := by decide +kernel
theorem dX6_best_41 : decode cX6_best 41 = .ok (.iload_n 2, 1) := by decide +kernel
theorem dX6_best_42 : decode cX6_best 42 = .ok (.ishl, 1) := by decide +kernel
theorem dX6_best_43 : decode cX6_best 43 = .ok (.if_icmp .ge 32, 3) := by decide +kernel
theorem dX6_best_46 : decode cX6_best 46 = .ok (.aload_n 0, 1) := by decide +kernel
theorem dX6_best_47 : decode cX6_best 47 = .ok (.iload_n 1, 1) := by decide +kernel
theorem dX6_best_48 : decode cX6_best 48 = .ok (.iload 5, 2) := by decide +kernel
theorem dX6_best_50 : decode cX6_best 50 = .ok (.invokevirtual 142, 3) := by decide +kernel
theorem dX6_best_53 : decode cX6_best 53 = .ok (.istore 6, 2) := by decide +kernel
theorem dX6_best_55 : decode cX6_best 55 = .ok (.iload 6, 2) := by decide +kernel
theorem dX6_best_57 : decode cX6_best 57 = .ok (.iload 4, 2) := by decide +kernel
theorem dX6_best_59 : decode cX6_best 59 = .ok (.if_icmp .ge 10, 3) := by decide +kernel
theorem dX6_best_62 : decode cX6_best 62 = .ok (.iload 6, 2) := by decide +kernel
theorem dX6_best_64 : decode cX6_best 64 = .ok (.istore 4, 2) := by decide +kernel
theorem dX6_best_66 : decode cX6_best 66 = .ok (.iload 5, 2) := by decide +kernel
theorem dX6_best_68 : decode cX6_best 68 = .ok (.istore_n 3, 1) := by decide +kernel
theorem dX6_best_69 : decode cX6_best 69 = .ok (.iinc 5 1, 3) := by decide +kernel
theorem dX6_best_72 : decode cX6_best 72 = .ok (.goto (-34), 3) := by decide +kernel
theorem dX6_best_75 : decode cX6_best 75 = .ok (.iload_n 3, 1) := by decide +kernel
theorem dX6_best_76 : decode cX6_best 76 = .ok (.ireturn, 1) := by decide +kernel
theorem dX6_layWalks_0 : decode cX6_layWalks 0 = .ok (.iconst 0, 1) := by decide +kernel
theorem dX6_layWalks_1 : decode cX6_layWalks 1 = .ok (.istore 4, 2) := by decide +kernel
theorem dX6_layWalks_3 : decode cX6_layWalks 3 = .ok (.iload 4, 2) := by decide +kernel
theorem dX6_layWalks_5 : decode cX6_layWalks 5 = .ok (.bipush 10, 2) := by decide +kernel
theorem dX6_layWalks_7 : decode cX6_layWalks 7 = .ok (.if_icmp .ge 27, 3) := by decide +kernel
theorem dX6_layWalks_10 : decode cX6_layWalks 10 = .ok (.aload_n 0, 1) := by decide +kernel
theorem dX6_layWalks_11 : decode cX6_layWalks 11 = .ok (.getfield 44, 3) := by decide +kernel
theorem dX6_layWalks_14 : decode cX6_layWalks 14 = .ok (.iload 4, 2) := by decide +kernel
theorem dX6_layWalks_16 : decode cX6_layWalks 16 = .ok (.iload 4, 2) := by decide +kernel
theorem dX6_layWalks_18 : decode cX6_layWalks 18 = .ok (.iload_n 2, 1) := by decide +kernel
theorem dX6_layWalks_19 : decode cX6_layWalks 19 = .ok (.if_icmp .ne 7, 3) := by decide +kernel
theorem dX6_layWalks_22 : decode cX6_layWalks 22 = .ok (.lconst 1, 1) := by decide +kernel
theorem dX6_layWalks_23 : decode cX6_layWalks 23 = .ok (.goto 4, 3) := by decide +kernel
theorem dX6_layWalks_26 : decode cX6_layWalks 26 = .ok (.lconst 0, 1) := by decide +kernel
theorem dX6_layWalks_27 : decode cX6_layWalks 27 = .ok (.lastore, 1) := by decide +kernel
theorem dX6_layWalks_28 : decode cX6_layWalks 28 = .ok (.iinc 4 1, 3) := by decide +kernel
theorem dX6_layWalks_31 : decode cX6_layWalks 31 = .ok (.goto (-28), 3) := by decide +kernel
theorem dX6_layWalks_34 : decode cX6_layWalks 34 = .ok (.iconst 0, 1) := by decide +kernel
theorem dX6_layWalks_35 : decode cX6_layWalks 35 = .ok (.istore 4, 2) := by decide +kernel
theorem dX6_layWalks_37 : decode cX6_layWalks 37 = .ok (.iload 4, 2) := by decide +kernel
theorem dX6_layWalks_39 : decode cX6_layWalks 39 = .ok (.iload_n 3, 1) := by decide +kernel
theorem dX6_layWalks_40 : decode cX6_layWalks 40 = .ok (.if_icmp .ge 124, 3) := by decide +kernel
theorem dX6_layWalks_43 : decode cX6_layWalks 43 = .ok (.iconst 0, 1) := by decide +kernel
theorem dX6_layWalks_44 : decode cX6_layWalks 44 = .ok (.istore 5, 2) := by decide +kernel
theorem dX6_layWalks_46 : decode cX6_layWalks 46 = .ok (.iload 5, 2) := by decide +kernel
theorem dX6_layWalks_48 : decode cX6_layWalks 48 = .ok (.aload_n 0, 1) := by decide +kernel
theorem dX6_layWalks_49 : decode cX6_layWalks 49 = .ok (.getfield 7, 3) := by decide +kernel
theorem dX6_layWalks_52 : decode cX6_layWalks 52 = .ok (.iload_n 1, 1) := by decide +kernel
theorem dX6_layWalks_53 : decode cX6_layWalks 53 = .ok (.iaload, 1) := by decide +kernel
theorem dX6_layWalks_54 : decode cX6_layWalks 54 = .ok (.if_icmp .ge 70, 3) := by decide +kernel
theorem dX6_layWalks_57 : decode cX6_layWalks 57 = .ok (.aload_n 0, 1) := by decide +kernel
theorem dX6_layWalks_58 : decode cX6_layWalks 58 = .ok (.getfield 47, 3) := by decide +kernel
theorem dX6_layWalks_61 : decode cX6_layWalks 61 = .ok (.iload 5, 2) := by decide +kernel
theorem dX6_layWalks_63 : decode cX6_layWalks 63 = .ok (.lconst 0, 1) := by decide +kernel
theorem dX6_layWalks_64 : decode cX6_layWalks 64 = .ok (.lastore, 1) := by decide +kernel
theorem dX6_layWalks_65 : decode cX6_layWalks 65 = .ok (.iconst 0, 1) := by decide +kernel
theorem dX6_layWalks_66 : decode cX6_layWalks 66 = .ok (.istore 6, 2) := by decide +kernel
theorem dX6_layWalks_68 : decode cX6_layWalks 68 = .ok (.iload 6, 2) := by decide +kernel
theorem dX6_layWalks_70 : decode cX6_layWalks 70 = .ok (.aload_n 0, 1) := by decide +kernel
theorem dX6_layWalks_71 : decode cX6_layWalks 71 = .ok (.getfield 7, 3) := by decide +kernel
theorem dX6_layWalks_74 : decode cX6_layWalks 74 = .ok (.iload_n 1, 1) := by decide +kernel
theorem dX6_layWalks_75 : decode cX6_layWalks 75 = .ok (.iaload, 1) := by decide +kernel
theorem dX6_layWalks_76 : decode cX6_layWalks 76 = .ok (.if_icmp .ge 42, 3) := by decide +kernel
theorem dX6_layWalks_79 : decode cX6_layWalks 79 = .ok (.aload_n 0, 1) := by decide +kernel
theorem dX6_layWalks_80 : decode cX6_layWalks 80 = .ok (.getfield 47, 3) := by decide +kernel
theorem dX6_layWalks_83 : decode cX6_layWalks 83 = .ok (.iload 5, 2) := by decide +kernel
theorem dX6_layWalks_85 : decode cX6_layWalks 85 = .ok (.dup2, 1) := by decide +kernel
theorem dX6_layWalks_86 : decode cX6_layWalks 86 = .ok (.laload, 1) := by decide +kernel
theorem dX6_layWalks_87 : decode cX6_layWalks 87 = .ok (.aload_n 0, 1) := by decide +kernel
theorem dX6_layWalks_88 : decode cX6_layWalks 88 = .ok (.iload_n 1, 1) := by decide +kernel
theorem dX6_layWalks_89 : decode cX6_layWalks 89 = .ok (.iload 6, 2) := by decide +kernel
theorem dX6_layWalks_91 : decode cX6_layWalks 91 = .ok (.iload 5, 2) := by decide +kernel
theorem dX6_layWalks_93 : decode cX6_layWalks 93 = .ok (.invokevirtual 85, 3) := by decide +kernel
theorem dX6_layWalks_96 : decode cX6_layWalks 96 = .ok (.ifCond .eq 13, 3) := by decide +kernel
theorem dX6_layWalks_99 : decode cX6_layWalks 99 = .ok (.aload_n 0, 1) := by decide +kernel
theorem dX6_layWalks_100 : decode cX6_layWalks 100 = .ok (.getfield 44, 3) := by decide +kernel
theorem dX6_layWalks_103 : decode cX6_layWalks 103 = .ok (.iload 6, 2) := by decide +kernel
theorem dX6_layWalks_105 : decode cX6_layWalks 105 = .ok (.laload, 1) := by decide +kernel
theorem dX6_layWalks_106 : decode cX6_layWalks 106 = .ok (.goto 4, 3) := by decide +kernel
theorem dX6_layWalks_109 : decode cX6_layWalks 109 = .ok (.lconst 0, 1) := by decide +kernel
theorem dX6_layWalks_110 : decode cX6_layWalks 110 = .ok (.ladd, 1) := by decide +kernel
theorem dX6_layWalks_111 : decode cX6_layWalks 111 = .ok (.lastore, 1) := by decide +kernel
theorem dX6_layWalks_112 : decode cX6_layWalks 112 = .ok (.iinc 6 1, 3) := by decide +kernel
theorem dX6_layWalks_115 : decode cX6_layWalks 115 = .ok (.goto (-47), 3) := by decide +kernel
theorem dX6_layWalks_118 : decode cX6_layWalks 118 = .ok (.iinc 5 1, 3) := by decide +kernel
theorem dX6_layWalks_121 : decode cX6_layWalks 121 = .ok (.goto (-75), 3) := by decide +kernel
theorem dX6_layWalks_124 : decode cX6_layWalks 124 = .ok (.iconst 0, 1) := by decide +kernel
theorem dX6_layWalks_125 : decode cX6_layWalks 125 = .ok (.istore 5, 2) := by decide +kernel
theorem dX6_layWalks_127 : decode cX6_layWalks 127 = .ok (.iload 5, 2) := by decide +kernel
theorem dX6_layWalks_129 : decode cX6_layWalks 129 = .ok (.aload_n 0, 1) := by decide +kernel
theorem dX6_layWalks_130 : decode cX6_layWalks 130 = .ok (.getfield 7, 3) := by decide +kernel
theorem dX6_layWalks_133 : decode cX6_layWalks 133 = .ok (.iload_n 1, 1) := by decide +kernel
theorem dX6_layWalks_134 : decode cX6_layWalks 134 = .ok (.iaload, 1) := by decide +kernel
theorem dX6_layWalks_135 : decode cX6_layWalks 135 = .ok (.if_icmp .ge 23, 3) := by decide +kernel
theorem dX6_layWalks_138 : decode cX6_layWalks 138 = .ok (.aload_n 0, 1) := by decide +kernel
theorem dX6_layWalks_139 : decode cX6_layWalks 139 = .ok (.getfield 44, 3) := by decide +kernel
theorem dX6_layWalks_142 : decode cX6_layWalks 142 = .ok (.iload 5, 2) := by decide +kernel
theorem dX6_layWalks_144 : decode cX6_layWalks 144 = .ok (.aload_n 0, 1) := by decide +kernel
theorem dX6_layWalks_145 : decode cX6_layWalks 145 = .ok (.getfield 47, 3) := by decide +kernel
theorem dX6_layWalks_148 : decode cX6_layWalks 148 = .ok (.iload 5, 2) := by decide +kernel
theorem dX6_layWalks_150 : decode cX6_layWalks 150 = .ok (.laload, 1) := by decide +kernel
theorem dX6_layWalks_151 : decode cX6_layWalks 151 = .ok (.lastore, 1) := by decide +kernel
theorem dX6_layWalks_152 : decode cX6_layWalks 152 = .ok (.iinc 5 1, 3) := by decide +kernel
theorem dX6_layWalks_155 : decode cX6_layWalks 155 = .ok (.goto (-28), 3) := by decide +kernel
theorem dX6_layWalks_158 : decode cX6_layWalks 158 = .ok (.iinc 4 1, 3) := by decide +kernel
theorem dX6_layWalks_161 : decode cX6_layWalks 161 = .ok (.goto (-124), 3) := by decide +kernel
theorem dX6_layWalks_164 : decode cX6_layWalks 164 = .ok (.return_, 1) := by decide +kernel
theorem dX6_walks_0 : decode cX6_walks 0 = .ok (.aload_n 0, 1) := by decide +kernel
theorem dX6_walks_1 : decode cX6_walks 1 = .ok (.iload_n 1, 1) := by decide +kernel
theorem dX6_walks_2 : decode cX6_walks 2 = .ok (.iload_n 2, 1) := by decide +kernel
theorem dX6_walks_3 : decode cX6_walks 3 = .ok (.invokevirtual 81, 3) := by decide +kernel
theorem dX6_walks_6 : decode cX6_walks 6 = .ok (.ifCond .eq 23, 3) := by decide +kernel
theorem dX6_walks_9 : decode cX6_walks 9 = .ok (.aload_n 0, 1) := by decide +kernel
theorem dX6_walks_10 : decode cX6_walks 10 = .ok (.iload_n 1, 1) := by decide +kernel
theorem dX6_walks_11 : decode cX6_walks 11 = .ok (.iload_n 3, 1) := by decide +kernel
theorem dX6_walks_12 : decode cX6_walks 12 = .ok (.invokevirtual 81, 3) := by decide +kernel
theorem dX6_walks_15 : decode cX6_walks 15 = .ok (.ifCond .eq 14, 3) := by decide +kernel
theorem dX6_walks_18 : decode cX6_walks 18 = .ok (.iload 4, 2) := by decide +kernel
theorem dX6_walks_20 : decode cX6_walks 20 = .ok (.iconst 0, 1) := by decide +kernel
theorem dX6_walks_21 : decode cX6_walks 21 = .ok (.bipush 12, 2) := by decide +kernel
theorem dX6_walks_23 : decode cX6_walks 23 = .ok (.invokestatic 65, 3) := by decide +kernel
theorem dX6_walks_26 : decode cX6_walks 26 = .ok (.ifCond .ne 7, 3) := by decide +kernel
theorem dX6_walks_29 : decode cX6_walks 29 = .ok (.ldc2_w 145, 3) := by decide +kernel
theorem dX6_walks_32 : decode cX6_walks 32 = .ok (.lreturn, 1) := by decide +kernel
theorem dX6_walks_33 : decode cX6_walks 33 = .ok (.aload_n 0, 1) := by decide +kernel
theorem dX6_walks_34 : decode cX6_walks 34 = .ok (.iload_n 1, 1) := by decide +kernel
theorem dX6_walks_35 : decode cX6_walks 35 = .ok (.iload_n 2, 1) := by decide +kernel
theorem dX6_walks_36 : decode cX6_walks 36 = .ok (.iload 4, 2) := by decide +kernel
theorem dX6_walks_38 : decode cX6_walks 38 = .ok (.invokevirtual 147, 3) := by decide +kernel
theorem dX6_walks_41 : decode cX6_walks 41 = .ok (.aload_n 0, 1) := by decide +kernel
theorem dX6_walks_42 : decode cX6_walks 42 = .ok (.getfield 44, 3) := by decide +kernel
theorem dX6_walks_45 : decode cX6_walks 45 = .ok (.iload_n 3, 1) := by decide +kernel
theorem dX6_walks_46 : decode cX6_walks 46 = .ok (.laload, 1) := by decide +kernel
theorem dX6_walks_47 : decode cX6_walks 47 = .ok (.lreturn, 1) := by decide +kernel
theorem dX6_uneven_0 : decode cX6_uneven 0 = .ok (.aload_n 0, 1) := by decide +kernel
theorem dX6_uneven_1 : decode cX6_uneven 1 = .ok (.iload_n 1, 1) := by decide +kernel
theorem dX6_uneven_2 : decode cX6_uneven 2 = .ok (.iload_n 2, 1) := by decide +kernel
theorem dX6_uneven_3 : decode cX6_uneven 3 = .ok (.invokevirtual 81, 3) := by decide +kernel
theorem dX6_uneven_6 : decode cX6_uneven 6 = .ok (.ifCond .eq 13, 3) := by decide +kernel
theorem dX6_uneven_9 : decode cX6_uneven 9 = .ok (.iload_n 3, 1) := by decide +kernel
theorem dX6_uneven_10 : decode cX6_uneven 10 = .ok (.iconst 0, 1) := by decide +kernel
theorem dX6_uneven_11 : decode cX6_uneven 11 = .ok (.bipush 12, 2) := by decide +kernel
theorem dX6_uneven_13 : decode cX6_uneven 13 = .ok (.invokestatic 65, 3) := by decide +kernel
theorem dX6_uneven_16 : decode cX6_uneven 16 = .ok (.ifCond .ne 7, 3) := by decide +kernel
theorem dX6_uneven_19 : decode cX6_uneven 19 = .ok (.ldc2_w 145, 3) := by decide +kernel
theorem dX6_uneven_22 : decode cX6_uneven 22 = .ok (.lreturn, 1) := by decide +kernel
theorem dX6_uneven_23 : decode cX6_uneven 23 = .ok (.aload_n 0, 1) := by decide +kernel
theorem dX6_uneven_24 : decode cX6_uneven 24 = .ok (.iload_n 1, 1) := by decide +kernel
theorem dX6_uneven_25 : decode cX6_uneven 25 = .ok (.invokevirtual 99, 3) := by decide +kernel
theorem dX6_uneven_28 : decode cX6_uneven 28 = .ok (.istore 4, 2) := by decide +kernel
theorem dX6_uneven_30 : decode cX6_uneven 30 = .ok (.iload 4, 2) := by decide +kernel
theorem dX6_uneven_32 : decode cX6_uneven 32 = .ok (.iconst (-1), 1) := by decide +kernel
theorem dX6_uneven_33 : decode cX6_uneven 33 = .ok (.if_icmp .ne 7, 3) := by decide +kernel
theorem dX6_uneven_36 : decode cX6_uneven 36 = .ok (.ldc2_w 150, 3) := by decide +kernel
theorem dX6_uneven_39 : decode cX6_uneven 39 = .ok (.lreturn, 1) := by decide +kernel
theorem dX6_uneven_40 : decode cX6_uneven 40 = .ok (.aload_n 0, 1) := by decide +kernel
theorem dX6_uneven_41 : decode cX6_uneven 41 = .ok (.iload_n 1, 1) := by decide +kernel
theorem dX6_uneven_42 : decode cX6_uneven 42 = .ok (.iload_n 2, 1) := by decide +kernel
theorem dX6_uneven_43 : decode cX6_uneven 43 = .ok (.iload_n 3, 1) := by decide +kernel
theorem dX6_uneven_44 : decode cX6_uneven 44 = .ok (.invokevirtual 147, 3) := by decide +kernel
theorem dX6_uneven_47 : decode cX6_uneven 47 = .ok (.lconst 1, 1) := by decide +kernel
theorem dX6_uneven_48 : decode cX6_uneven 48 = .ok (.lstore 5, 2) := by decide +kernel
theorem dX6_uneven_50 : decode cX6_uneven 50 = .ok (.iconst 0, 1) := by decide +kernel
theorem dX6_uneven_51 : decode cX6_uneven 51 = .ok (.istore 7, 2) := by decide +kernel
theorem dX6_uneven_53 : decode cX6_uneven 53 = .ok (.iload 7, 2) := by decide +kernel
theorem dX6_uneven_55 : decode cX6_uneven 55 = .ok (.iload_n 3, 1) := by decide +kernel
theorem dX6_uneven_56 : decode cX6_uneven 56 = .ok (.if_icmp .ge 17, 3) := by decide +kernel
theorem dX6_uneven_59 : decode cX6_uneven 59 = .ok (.lload 5, 2) := by decide +kernel
theorem dX6_uneven_61 : decode cX6_uneven 61 = .ok (.iload 4, 2) := by decide +kernel
theorem dX6_uneven_63 : decode cX6_uneven 63 = .ok (.i2l, 1) := by decide +kernel
theorem dX6_uneven_64 : decode cX6_uneven 64 = .ok (.lmul, 1) := by decide +kernel
theorem dX6_uneven_65 : decode cX6_uneven 65 = .ok (.lstore 5, 2) := by decide +kernel
theorem dX6_uneven_67 : decode cX6_uneven 67 = .ok (.iinc 7 1, 3) := by decide +kernel
theorem dX6_uneven_70 : decode cX6_uneven 70 = .ok (.goto (-17), 3) := by decide +kernel
theorem dX6_uneven_73 : decode cX6_uneven 73 = .ok (.lconst 0, 1) := by decide +kernel
theorem dX6_uneven_74 : decode cX6_uneven 74 = .ok (.lstore 7, 2) := by decide +kernel
theorem dX6_uneven_76 : decode cX6_uneven 76 = .ok (.iconst 0, 1) := by decide +kernel
end
section
theorem dX6_uneven_77 : decode cX6_uneven 77 = .ok (.istore 9, 2) := by decide +kernel
theorem dX6_uneven_79 : decode cX6_uneven 79 = .ok (.iload 9, 2) := by decide +kernel
theorem dX6_uneven_81 : decode cX6_uneven 81 = .ok (.aload_n 0, 1) := by decide +kernel
theorem dX6_uneven_82 : decode cX6_uneven 82 = .ok (.getfield 7, 3) := by decide +kernel
theorem dX6_uneven_85 : decode cX6_uneven 85 = .ok (.iload_n 1, 1) := by decide +kernel
theorem dX6_uneven_86 : decode cX6_uneven 86 = .ok (.iaload, 1) := by decide +kernel
theorem dX6_uneven_87 : decode cX6_uneven 87 = .ok (.if_icmp .ge 49, 3) := by decide +kernel
theorem dX6_uneven_90 : decode cX6_uneven 90 = .ok (.aload_n 0, 1) := by decide +kernel
theorem dX6_uneven_91 : decode cX6_uneven 91 = .ok (.getfield 7, 3) := by decide +kernel
theorem dX6_uneven_94 : decode cX6_uneven 94 = .ok (.iload_n 1, 1) := by decide +kernel
theorem dX6_uneven_95 : decode cX6_uneven 95 = .ok (.iaload, 1) := by decide +kernel
theorem dX6_uneven_96 : decode cX6_uneven 96 = .ok (.i2l, 1) := by decide +kernel
theorem dX6_uneven_97 : decode cX6_uneven 97 = .ok (.aload_n 0, 1) := by decide +kernel
theorem dX6_uneven_98 : decode cX6_uneven 98 = .ok (.getfield 44, 3) := by decide +kernel
theorem dX6_uneven_101 : decode cX6_uneven 101 = .ok (.iload 9, 2) := by decide +kernel
theorem dX6_uneven_103 : decode cX6_uneven 103 = .ok (.laload, 1) := by decide +kernel
theorem dX6_uneven_104 : decode cX6_uneven 104 = .ok (.lmul, 1) := by decide +kernel
theorem dX6_uneven_105 : decode cX6_uneven 105 = .ok (.lload 5, 2) := by decide +kernel
theorem dX6_uneven_107 : decode cX6_uneven 107 = .ok (.lsub, 1) := by decide +kernel
theorem dX6_uneven_108 : decode cX6_uneven 108 = .ok (.lstore 10, 2) := by decide +kernel
theorem dX6_uneven_110 : decode cX6_uneven 110 = .ok (.lload 7, 2) := by decide +kernel
theorem dX6_uneven_112 : decode cX6_uneven 112 = .ok (.lload 10, 2) := by decide +kernel
theorem dX6_uneven_114 : decode cX6_uneven 114 = .ok (.lconst 0, 1) := by decide +kernel
theorem dX6_uneven_115 : decode cX6_uneven 115 = .ok (.lcmp, 1) := by decide +kernel
theorem dX6_uneven_116 : decode cX6_uneven 116 = .ok (.ifCond .ge 9, 3) := by decide +kernel
theorem dX6_uneven_119 : decode cX6_uneven 119 = .ok (.lload 10, 2) := by decide +kernel
theorem dX6_uneven_121 : decode cX6_uneven 121 = .ok (.lneg, 1) := by decide +kernel
theorem dX6_uneven_122 : decode cX6_uneven 122 = .ok (.goto 5, 3) := by decide +kernel
theorem dX6_uneven_125 : decode cX6_uneven 125 = .ok (.lload 10, 2) := by decide +kernel
theorem dX6_uneven_127 : decode cX6_uneven 127 = .ok (.ladd, 1) := by decide +kernel
theorem dX6_uneven_128 : decode cX6_uneven 128 = .ok (.lstore 7, 2) := by decide +kernel
theorem dX6_uneven_130 : decode cX6_uneven 130 = .ok (.iinc 9 1, 3) := by decide +kernel
theorem dX6_uneven_133 : decode cX6_uneven 133 = .ok (.goto (-54), 3) := by decide +kernel
theorem dX6_uneven_136 : decode cX6_uneven 136 = .ok (.lload 7, 2) := by decide +kernel
theorem dX6_uneven_138 : decode cX6_uneven 138 = .ok (.lreturn, 1) := by decide +kernel
theorem dX6_see_0 : decode cX6_see 0 = .ok (.aload_n 0, 1) := by decide +kernel
theorem dX6_see_1 : decode cX6_see 1 = .ok (.getfield 56, 3) := by decide +kernel
theorem dX6_see_4 : decode cX6_see 4 = .ok (.iload_n 1, 1) := by decide +kernel
theorem dX6_see_5 : decode cX6_see 5 = .ok (.iaload, 1) := by decide +kernel
theorem dX6_see_6 : decode cX6_see 6 = .ok (.bipush (-2), 2) := by decide +kernel
theorem dX6_see_8 : decode cX6_see 8 = .ok (.if_icmp .ne 30, 3) := by decide +kernel
theorem dX6_see_11 : decode cX6_see 11 = .ok (.aload_n 0, 1) := by decide +kernel
theorem dX6_see_12 : decode cX6_see 12 = .ok (.getfield 56, 3) := by decide +kernel
theorem dX6_see_15 : decode cX6_see 15 = .ok (.iload_n 1, 1) := by decide +kernel
theorem dX6_see_16 : decode cX6_see 16 = .ok (.iload_n 2, 1) := by decide +kernel
theorem dX6_see_17 : decode cX6_see 17 = .ok (.iastore, 1) := by decide +kernel
theorem dX6_see_18 : decode cX6_see 18 = .ok (.aload_n 0, 1) := by decide +kernel
theorem dX6_see_19 : decode cX6_see 19 = .ok (.getfield 59, 3) := by decide +kernel
theorem dX6_see_22 : decode cX6_see 22 = .ok (.aload_n 0, 1) := by decide +kernel
theorem dX6_see_23 : decode cX6_see 23 = .ok (.getfield 152, 3) := by decide +kernel
theorem dX6_see_26 : decode cX6_see 26 = .ok (.iload_n 1, 1) := by decide +kernel
theorem dX6_see_27 : decode cX6_see 27 = .ok (.iastore, 1) := by decide +kernel
theorem dX6_see_28 : decode cX6_see 28 = .ok (.aload_n 0, 1) := by decide +kernel
theorem dX6_see_29 : decode cX6_see 29 = .ok (.dup, 1) := by decide +kernel
theorem dX6_see_30 : decode cX6_see 30 = .ok (.getfield 152, 3) := by decide +kernel
theorem dX6_see_33 : decode cX6_see 33 = .ok (.iconst 1, 1) := by decide +kernel
theorem dX6_see_34 : decode cX6_see 34 = .ok (.iadd, 1) := by decide +kernel
theorem dX6_see_35 : decode cX6_see 35 = .ok (.putfield 152, 3) := by decide +kernel
theorem dX6_see_38 : decode cX6_see 38 = .ok (.return_, 1) := by decide +kernel
theorem dX6_isUsed_0 : decode cX6_isUsed 0 = .ok (.aload_n 0, 1) := by decide +kernel
theorem dX6_isUsed_1 : decode cX6_isUsed 1 = .ok (.getfield 155, 3) := by decide +kernel
theorem dX6_isUsed_4 : decode cX6_isUsed 4 = .ok (.iload_n 1, 1) := by decide +kernel
theorem dX6_isUsed_5 : decode cX6_isUsed 5 = .ok (.ishr, 1) := by decide +kernel
theorem dX6_isUsed_6 : decode cX6_isUsed 6 = .ok (.iconst 1, 1) := by decide +kernel
theorem dX6_isUsed_7 : decode cX6_isUsed 7 = .ok (.iand, 1) := by decide +kernel
theorem dX6_isUsed_8 : decode cX6_isUsed 8 = .ok (.iconst 1, 1) := by decide +kernel
theorem dX6_isUsed_9 : decode cX6_isUsed 9 = .ok (.if_icmp .eq 12, 3) := by decide +kernel
theorem dX6_isUsed_12 : decode cX6_isUsed 12 = .ok (.aload_n 0, 1) := by decide +kernel
theorem dX6_isUsed_13 : decode cX6_isUsed 13 = .ok (.getfield 53, 3) := by decide +kernel
theorem dX6_isUsed_16 : decode cX6_isUsed 16 = .ok (.iload_n 1, 1) := by decide +kernel
theorem dX6_isUsed_17 : decode cX6_isUsed 17 = .ok (.iaload, 1) := by decide +kernel
theorem dX6_isUsed_18 : decode cX6_isUsed 18 = .ok (.ifCond .lt 7, 3) := by decide +kernel
theorem dX6_isUsed_21 : decode cX6_isUsed 21 = .ok (.iconst 1, 1) := by decide +kernel
theorem dX6_isUsed_22 : decode cX6_isUsed 22 = .ok (.goto 4, 3) := by decide +kernel
theorem dX6_isUsed_25 : decode cX6_isUsed 25 = .ok (.iconst 0, 1) := by decide +kernel
theorem dX6_isUsed_26 : decode cX6_isUsed 26 = .ok (.ireturn, 1) := by decide +kernel
theorem dX6_oneMore_0 : decode cX6_oneMore 0 = .ok (.aload_n 0, 1) := by decide +kernel
theorem dX6_oneMore_1 : decode cX6_oneMore 1 = .ok (.getfield 7, 3) := by decide +kernel
theorem dX6_oneMore_4 : decode cX6_oneMore 4 = .ok (.iload_n 1, 1) := by decide +kernel
theorem dX6_oneMore_5 : decode cX6_oneMore 5 = .ok (.iaload, 1) := by decide +kernel
theorem dX6_oneMore_6 : decode cX6_oneMore 6 = .ok (.istore 4, 2) := by decide +kernel
theorem dX6_oneMore_8 : decode cX6_oneMore 8 = .ok (.iconst 0, 1) := by decide +kernel
theorem dX6_oneMore_9 : decode cX6_oneMore 9 = .ok (.istore 5, 2) := by decide +kernel
theorem dX6_oneMore_11 : decode cX6_oneMore 11 = .ok (.iload 5, 2) := by decide +kernel
theorem dX6_oneMore_13 : decode cX6_oneMore 13 = .ok (.bipush 20, 2) := by decide +kernel
theorem dX6_oneMore_15 : decode cX6_oneMore 15 = .ok (.if_icmp .ge 18, 3) := by decide +kernel
theorem dX6_oneMore_18 : decode cX6_oneMore 18 = .ok (.aload_n 0, 1) := by decide +kernel
theorem dX6_oneMore_19 : decode cX6_oneMore 19 = .ok (.getfield 56, 3) := by decide +kernel
theorem dX6_oneMore_22 : decode cX6_oneMore 22 = .ok (.iload 5, 2) := by decide +kernel
theorem dX6_oneMore_24 : decode cX6_oneMore 24 = .ok (.bipush (-2), 2) := by decide +kernel
theorem dX6_oneMore_26 : decode cX6_oneMore 26 = .ok (.iastore, 1) := by decide +kernel
theorem dX6_oneMore_27 : decode cX6_oneMore 27 = .ok (.iinc 5 1, 3) := by decide +kernel
theorem dX6_oneMore_30 : decode cX6_oneMore 30 = .ok (.goto (-19), 3) := by decide +kernel
theorem dX6_oneMore_33 : decode cX6_oneMore 33 = .ok (.aload_n 0, 1) := by decide +kernel
theorem dX6_oneMore_34 : decode cX6_oneMore 34 = .ok (.iconst 0, 1) := by decide +kernel
theorem dX6_oneMore_35 : decode cX6_oneMore 35 = .ok (.putfield 152, 3) := by decide +kernel
theorem dX6_oneMore_38 : decode cX6_oneMore 38 = .ok (.iconst 0, 1) := by decide +kernel
theorem dX6_oneMore_39 : decode cX6_oneMore 39 = .ok (.istore 5, 2) := by decide +kernel
theorem dX6_oneMore_41 : decode cX6_oneMore 41 = .ok (.iload 5, 2) := by decide +kernel
theorem dX6_oneMore_43 : decode cX6_oneMore 43 = .ok (.iload 4, 2) := by decide +kernel
theorem dX6_oneMore_45 : decode cX6_oneMore 45 = .ok (.if_icmp .ge 40, 3) := by decide +kernel
theorem dX6_oneMore_48 : decode cX6_oneMore 48 = .ok (.iload_n 2, 1) := by decide +kernel
theorem dX6_oneMore_49 : decode cX6_oneMore 49 = .ok (.iload 5, 2) := by decide +kernel
theorem dX6_oneMore_51 : decode cX6_oneMore 51 = .ok (.ishr, 1) := by decide +kernel
theorem dX6_oneMore_52 : decode cX6_oneMore 52 = .ok (.iconst 1, 1) := by decide +kernel
theorem dX6_oneMore_53 : decode cX6_oneMore 53 = .ok (.iand, 1) := by decide +kernel
theorem dX6_oneMore_54 : decode cX6_oneMore 54 = .ok (.iconst 1, 1) := by decide +kernel
theorem dX6_oneMore_55 : decode cX6_oneMore 55 = .ok (.if_icmp .ne 24, 3) := by decide +kernel
theorem dX6_oneMore_58 : decode cX6_oneMore 58 = .ok (.aload_n 0, 1) := by decide +kernel
theorem dX6_oneMore_59 : decode cX6_oneMore 59 = .ok (.getfield 155, 3) := by decide +kernel
theorem dX6_oneMore_62 : decode cX6_oneMore 62 = .ok (.iload 5, 2) := by decide +kernel
theorem dX6_oneMore_64 : decode cX6_oneMore 64 = .ok (.ishr, 1) := by decide +kernel
theorem dX6_oneMore_65 : decode cX6_oneMore 65 = .ok (.iconst 1, 1) := by decide +kernel
theorem dX6_oneMore_66 : decode cX6_oneMore 66 = .ok (.iand, 1) := by decide +kernel
theorem dX6_oneMore_67 : decode cX6_oneMore 67 = .ok (.ifCond .ne 12, 3) := by decide +kernel
theorem dX6_oneMore_70 : decode cX6_oneMore 70 = .ok (.aload_n 0, 1) := by decide +kernel
theorem dX6_oneMore_71 : decode cX6_oneMore 71 = .ok (.iconst 2, 1) := by decide +kernel
theorem dX6_oneMore_72 : decode cX6_oneMore 72 = .ok (.iload 5, 2) := by decide +kernel
theorem dX6_oneMore_74 : decode cX6_oneMore 74 = .ok (.imul, 1) := by decide +kernel
theorem dX6_oneMore_75 : decode cX6_oneMore 75 = .ok (.iconst (-1), 1) := by decide +kernel
theorem dX6_oneMore_76 : decode cX6_oneMore 76 = .ok (.invokevirtual 158, 3) := by decide +kernel
theorem dX6_oneMore_79 : decode cX6_oneMore 79 = .ok (.iinc 5 1, 3) := by decide +kernel
theorem dX6_oneMore_82 : decode cX6_oneMore 82 = .ok (.goto (-41), 3) := by decide +kernel
theorem dX6_oneMore_85 : decode cX6_oneMore 85 = .ok (.iconst 0, 1) := by decide +kernel
theorem dX6_oneMore_86 : decode cX6_oneMore 86 = .ok (.istore 5, 2) := by decide +kernel
theorem dX6_oneMore_88 : decode cX6_oneMore 88 = .ok (.iload 5, 2) := by decide +kernel
theorem dX6_oneMore_90 : decode cX6_oneMore 90 = .ok (.aload_n 0, 1) := by decide +kernel
theorem dX6_oneMore_91 : decode cX6_oneMore 91 = .ok (.getfield 152, 3) := by decide +kernel
theorem dX6_oneMore_94 : decode cX6_oneMore 94 = .ok (.if_icmp .ge 201, 3) := by decide +kernel
theorem dX6_oneMore_97 : decode cX6_oneMore 97 = .ok (.aload_n 0, 1) := by decide +kernel
theorem dX6_oneMore_98 : decode cX6_oneMore 98 = .ok (.getfield 59, 3) := by decide +kernel
theorem dX6_oneMore_101 : decode cX6_oneMore 101 = .ok (.iload 5, 2) := by decide +kernel
theorem dX6_oneMore_103 : decode cX6_oneMore 103 = .ok (.iaload, 1) := by decide +kernel
theorem dX6_oneMore_104 : decode cX6_oneMore 104 = .ok (.iconst 2, 1) := by decide +kernel
theorem dX6_oneMore_105 : decode cX6_oneMore 105 = .ok (.idiv, 1) := by decide +kernel
theorem dX6_oneMore_106 : decode cX6_oneMore 106 = .ok (.istore 6, 2) := by decide +kernel
theorem dX6_oneMore_108 : decode cX6_oneMore 108 = .ok (.aload_n 0, 1) := by decide +kernel
theorem dX6_oneMore_109 : decode cX6_oneMore 109 = .ok (.getfield 59, 3) := by decide +kernel
theorem dX6_oneMore_112 : decode cX6_oneMore 112 = .ok (.iload 5, 2) := by decide +kernel
theorem dX6_oneMore_114 : decode cX6_oneMore 114 = .ok (.iaload, 1) := by decide +kernel
theorem dX6_oneMore_115 : decode cX6_oneMore 115 = .ok (.iconst 2, 1) := by decide +kernel
theorem dX6_oneMore_116 : decode cX6_oneMore 116 = .ok (.irem, 1) := by decide +kernel
theorem dX6_oneMore_117 : decode cX6_oneMore 117 = .ok (.ifCond .ne 61, 3) := by decide +kernel
theorem dX6_oneMore_120 : decode cX6_oneMore 120 = .ok (.aload_n 0, 1) := by decide +kernel
theorem dX6_oneMore_121 : decode cX6_oneMore 121 = .ok (.iload 6, 2) := by decide +kernel
theorem dX6_oneMore_123 : decode cX6_oneMore 123 = .ok (.invokevirtual 161, 3) := by decide +kernel
theorem dX6_oneMore_126 : decode cX6_oneMore 126 = .ok (.ifCond .ne 20, 3) := by decide +kernel
theorem dX6_oneMore_129 : decode cX6_oneMore 129 = .ok (.aload_n 0, 1) := by decide +kernel
theorem dX6_oneMore_130 : decode cX6_oneMore 130 = .ok (.iconst 2, 1) := by decide +kernel
theorem dX6_oneMore_131 : decode cX6_oneMore 131 = .ok (.iload 6, 2) := by decide +kernel
theorem dX6_oneMore_133 : decode cX6_oneMore 133 = .ok (.imul, 1) := by decide +kernel
theorem dX6_oneMore_134 : decode cX6_oneMore 134 = .ok (.iconst 1, 1) := by decide +kernel
theorem dX6_oneMore_135 : decode cX6_oneMore 135 = .ok (.iadd, 1) := by decide +kernel
theorem dX6_oneMore_136 : decode cX6_oneMore 136 = .ok (.iconst 2, 1) := by decide +kernel
theorem dX6_oneMore_137 : decode cX6_oneMore 137 = .ok (.iload 6, 2) := by decide +kernel
theorem dX6_oneMore_139 : decode cX6_oneMore 139 = .ok (.imul, 1) := by decide +kernel
theorem dX6_oneMore_140 : decode cX6_oneMore 140 = .ok (.invokevirtual 158, 3) := by decide +kernel
theorem dX6_oneMore_143 : decode cX6_oneMore 143 = .ok (.goto 146, 3) := by decide +kernel
theorem dX6_oneMore_146 : decode cX6_oneMore 146 = .ok (.aload_n 0, 1) := by decide +kernel
theorem dX6_oneMore_147 : decode cX6_oneMore 147 = .ok (.getfield 53, 3) := by decide +kernel
theorem dX6_oneMore_150 : decode cX6_oneMore 150 = .ok (.iload 6, 2) := by decide +kernel
theorem dX6_oneMore_152 : decode cX6_oneMore 152 = .ok (.iaload, 1) := by decide +kernel
theorem dX6_oneMore_153 : decode cX6_oneMore 153 = .ok (.ifCond .lt 136, 3) := by decide +kernel
theorem dX6_oneMore_156 : decode cX6_oneMore 156 = .ok (.aload_n 0, 1) := by decide +kernel
theorem dX6_oneMore_157 : decode cX6_oneMore 157 = .ok (.iconst 2, 1) := by decide +kernel
theorem dX6_oneMore_158 : decode cX6_oneMore 158 = .ok (.aload_n 0, 1) := by decide +kernel
theorem dX6_oneMore_159 : decode cX6_oneMore 159 = .ok (.getfield 53, 3) := by decide +kernel
theorem dX6_oneMore_162 : decode cX6_oneMore 162 = .ok (.iload 6, 2) := by decide +kernel
theorem dX6_oneMore_164 : decode cX6_oneMore 164 = .ok (.iaload, 1) := by decide +kernel
theorem dX6_oneMore_165 : decode cX6_oneMore 165 = .ok (.imul, 1) := by decide +kernel
theorem dX6_oneMore_166 : decode cX6_oneMore 166 = .ok (.iconst 1, 1) := by decide +kernel
theorem dX6_oneMore_167 : decode cX6_oneMore 167 = .ok (.iadd, 1) := by decide +kernel
theorem dX6_oneMore_168 : decode cX6_oneMore 168 = .ok (.iconst 2, 1) := by decide +kernel
theorem dX6_oneMore_169 : decode cX6_oneMore 169 = .ok (.iload 6, 2) := by decide +kernel
theorem dX6_oneMore_171 : decode cX6_oneMore 171 = .ok (.imul, 1) := by decide +kernel
theorem dX6_oneMore_172 : decode cX6_oneMore 172 = .ok (.invokevirtual 158, 3) := by decide +kernel
theorem dX6_oneMore_175 : decode cX6_oneMore 175 = .ok (.goto 114, 3) := by decide +kernel
theorem dX6_oneMore_178 : decode cX6_oneMore 178 = .ok (.iload_n 3, 1) := by decide +kernel
theorem dX6_oneMore_179 : decode cX6_oneMore 179 = .ok (.iload 6, 2) := by decide +kernel
theorem dX6_oneMore_181 : decode cX6_oneMore 181 = .ok (.ishr, 1) := by decide +kernel
theorem dX6_oneMore_182 : decode cX6_oneMore 182 = .ok (.iconst 1, 1) := by decide +kernel
theorem dX6_oneMore_183 : decode cX6_oneMore 183 = .ok (.iand, 1) := by decide +kernel
theorem dX6_oneMore_184 : decode cX6_oneMore 184 = .ok (.iconst 1, 1) := by decide +kernel
theorem dX6_oneMore_185 : decode cX6_oneMore 185 = .ok (.if_icmp .ne 27, 3) := by decide +kernel
theorem dX6_oneMore_188 : decode cX6_oneMore 188 = .ok (.aload_n 0, 1) := by decide +kernel
theorem dX6_oneMore_189 : decode cX6_oneMore 189 = .ok (.getfield 164, 3) := by decide +kernel
theorem dX6_oneMore_192 : decode cX6_oneMore 192 = .ok (.iload 6, 2) := by decide +kernel
theorem dX6_oneMore_194 : decode cX6_oneMore 194 = .ok (.ishr, 1) := by decide +kernel
theorem dX6_oneMore_195 : decode cX6_oneMore 195 = .ok (.iconst 1, 1) := by decide +kernel
theorem dX6_oneMore_196 : decode cX6_oneMore 196 = .ok (.iand, 1) := by decide +kernel
theorem dX6_oneMore_197 : decode cX6_oneMore 197 = .ok (.ifCond .ne 15, 3) := by decide +kernel
theorem dX6_oneMore_200 : decode cX6_oneMore 200 = .ok (.aload_n 0, 1) := by decide +kernel
theorem dX6_oneMore_201 : decode cX6_oneMore 201 = .ok (.iconst 2, 1) := by decide +kernel
theorem dX6_oneMore_202 : decode cX6_oneMore 202 = .ok (.iload 6, 2) := by decide +kernel
theorem dX6_oneMore_204 : decode cX6_oneMore 204 = .ok (.imul, 1) := by decide +kernel
theorem dX6_oneMore_205 : decode cX6_oneMore 205 = .ok (.iconst 1, 1) := by decide +kernel
theorem dX6_oneMore_206 : decode cX6_oneMore 206 = .ok (.iadd, 1) := by decide +kernel
theorem dX6_oneMore_207 : decode cX6_oneMore 207 = .ok (.invokevirtual 167, 3) := by decide +kernel
theorem dX6_oneMore_210 : decode cX6_oneMore 210 = .ok (.iconst 1, 1) := by decide +kernel
theorem dX6_oneMore_211 : decode cX6_oneMore 211 = .ok (.ireturn, 1) := by decide +kernel
theorem dX6_oneMore_212 : decode cX6_oneMore 212 = .ok (.aload_n 0, 1) := by decide +kernel
theorem dX6_oneMore_213 : decode cX6_oneMore 213 = .ok (.iload 6, 2) := by decide +kernel
theorem dX6_oneMore_215 : decode cX6_oneMore 215 = .ok (.invokevirtual 161, 3) := by decide +kernel
theorem dX6_oneMore_218 : decode cX6_oneMore 218 = .ok (.ifCond .eq 17, 3) := by decide +kernel
theorem dX6_oneMore_221 : decode cX6_oneMore 221 = .ok (.aload_n 0, 1) := by decide +kernel
theorem dX6_oneMore_222 : decode cX6_oneMore 222 = .ok (.iconst 2, 1) := by decide +kernel
theorem dX6_oneMore_223 : decode cX6_oneMore 223 = .ok (.iload 6, 2) := by decide +kernel
theorem dX6_oneMore_225 : decode cX6_oneMore 225 = .ok (.imul, 1) := by decide +kernel
theorem dX6_oneMore_226 : decode cX6_oneMore 226 = .ok (.iconst 2, 1) := by decide +kernel
theorem dX6_oneMore_227 : decode cX6_oneMore 227 = .ok (.iload 6, 2) := by decide +kernel
theorem dX6_oneMore_229 : decode cX6_oneMore 229 = .ok (.imul, 1) := by decide +kernel
theorem dX6_oneMore_230 : decode cX6_oneMore 230 = .ok (.iconst 1, 1) := by decide +kernel
theorem dX6_oneMore_231 : decode cX6_oneMore 231 = .ok (.iadd, 1) := by decide +kernel
theorem dX6_oneMore_232 : decode cX6_oneMore 232 = .ok (.invokevirtual 158, 3) := by decide +kernel
theorem dX6_oneMore_235 : decode cX6_oneMore 235 = .ok (.iconst 0, 1) := by decide +kernel
theorem dX6_oneMore_236 : decode cX6_oneMore 236 = .ok (.istore 7, 2) := by decide +kernel
theorem dX6_oneMore_238 : decode cX6_oneMore 238 = .ok (.iload 7, 2) := by decide +kernel
theorem dX6_oneMore_240 : decode cX6_oneMore 240 = .ok (.iload 4, 2) := by decide +kernel
theorem dX6_oneMore_242 : decode cX6_oneMore 242 = .ok (.if_icmp .ge 47, 3) := by decide +kernel
theorem dX6_oneMore_245 : decode cX6_oneMore 245 = .ok (.aload_n 0, 1) := by decide +kernel
theorem dX6_oneMore_246 : decode cX6_oneMore 246 = .ok (.iload_n 1, 1) := by decide +kernel
theorem dX6_oneMore_247 : decode cX6_oneMore 247 = .ok (.iload 6, 2) := by decide +kernel
theorem dX6_oneMore_249 : decode cX6_oneMore 249 = .ok (.iload 7, 2) := by decide +kernel
theorem dX6_oneMore_251 : decode cX6_oneMore 251 = .ok (.invokevirtual 85, 3) := by decide +kernel
theorem dX6_oneMore_254 : decode cX6_oneMore 254 = .ok (.ifCond .eq 29, 3) := by decide +kernel
theorem dX6_oneMore_257 : decode cX6_oneMore 257 = .ok (.aload_n 0, 1) := by decide +kernel
theorem dX6_oneMore_258 : decode cX6_oneMore 258 = .ok (.getfield 50, 3) := by decide +kernel
theorem dX6_oneMore_261 : decode cX6_oneMore 261 = .ok (.iload 6, 2) := by decide +kernel
theorem dX6_oneMore_263 : decode cX6_oneMore 263 = .ok (.iaload, 1) := by decide +kernel
theorem dX6_oneMore_264 : decode cX6_oneMore 264 = .ok (.iload 7, 2) := by decide +kernel
theorem dX6_oneMore_266 : decode cX6_oneMore 266 = .ok (.if_icmp .eq 17, 3) := by decide +kernel
theorem dX6_oneMore_269 : decode cX6_oneMore 269 = .ok (.aload_n 0, 1) := by decide +kernel
theorem dX6_oneMore_270 : decode cX6_oneMore 270 = .ok (.iconst 2, 1) := by decide +kernel
theorem dX6_oneMore_271 : decode cX6_oneMore 271 = .ok (.iload 7, 2) := by decide +kernel
theorem dX6_oneMore_273 : decode cX6_oneMore 273 = .ok (.imul, 1) := by decide +kernel
theorem dX6_oneMore_274 : decode cX6_oneMore 274 = .ok (.iconst 2, 1) := by decide +kernel
theorem dX6_oneMore_275 : decode cX6_oneMore 275 = .ok (.iload 6, 2) := by decide +kernel
theorem dX6_oneMore_277 : decode cX6_oneMore 277 = .ok (.imul, 1) := by decide +kernel
theorem dX6_oneMore_278 : decode cX6_oneMore 278 = .ok (.iconst 1, 1) := by decide +kernel
theorem dX6_oneMore_279 : decode cX6_oneMore 279 = .ok (.iadd, 1) := by decide +kernel
theorem dX6_oneMore_280 : decode cX6_oneMore 280 = .ok (.invokevirtual 158, 3) := by decide +kernel
theorem dX6_oneMore_283 : decode cX6_oneMore 283 = .ok (.iinc 7 1, 3) := by decide +kernel
theorem dX6_oneMore_286 : decode cX6_oneMore 286 = .ok (.goto (-48), 3) := by decide +kernel
theorem dX6_oneMore_289 : decode cX6_oneMore 289 = .ok (.iinc 5 1, 3) := by decide +kernel
theorem dX6_oneMore_292 : decode cX6_oneMore 292 = .ok (.goto (-204), 3) := by decide +kernel
theorem dX6_oneMore_295 : decode cX6_oneMore 295 = .ok (.iconst 0, 1) := by decide +kernel
theorem dX6_oneMore_296 : decode cX6_oneMore 296 = .ok (.ireturn, 1) := by decide +kernel
theorem dX6_lay_0 : decode cX6_lay 0 = .ok (.iconst 0, 1) := by decide +kernel
theorem dX6_lay_1 : decode cX6_lay 1 = .ok (.istore_n 2, 1) := by decide +kernel
theorem dX6_lay_2 : decode cX6_lay 2 = .ok (.iload_n 1, 1) := by decide +kernel
theorem dX6_lay_3 : decode cX6_lay 3 = .ok (.istore_n 3, 1) := by decide +kernel
theorem dX6_lay_4 : decode cX6_lay 4 = .ok (.iload_n 3, 1) := by decide +kernel
theorem dX6_lay_5 : decode cX6_lay 5 = .ok (.ifCond .lt 23, 3) := by decide +kernel
theorem dX6_lay_8 : decode cX6_lay 8 = .ok (.aload_n 0, 1) := by decide +kernel
theorem dX6_lay_9 : decode cX6_lay 9 = .ok (.getfield 62, 3) := by decide +kernel
theorem dX6_lay_12 : decode cX6_lay 12 = .ok (.iload_n 2, 1) := by decide +kernel
theorem dX6_lay_13 : decode cX6_lay 13 = .ok (.iload_n 3, 1) := by decide +kernel
theorem dX6_lay_14 : decode cX6_lay 14 = .ok (.iastore, 1) := by decide +kernel
theorem dX6_lay_15 : decode cX6_lay 15 = .ok (.iinc 2 1, 3) := by decide +kernel
theorem dX6_lay_18 : decode cX6_lay 18 = .ok (.aload_n 0, 1) := by decide +kernel
theorem dX6_lay_19 : decode cX6_lay 19 = .ok (.getfield 56, 3) := by decide +kernel
theorem dX6_lay_22 : decode cX6_lay 22 = .ok (.iload_n 3, 1) := by decide +kernel
theorem dX6_lay_23 : decode cX6_lay 23 = .ok (.iaload, 1) := by decide +kernel
theorem dX6_lay_24 : decode cX6_lay 24 = .ok (.istore_n 3, 1) := by decide +kernel
theorem dX6_lay_25 : decode cX6_lay 25 = .ok (.goto (-21), 3) := by decide +kernel
theorem dX6_lay_28 : decode cX6_lay 28 = .ok (.aload_n 0, 1) := by decide +kernel
theorem dX6_lay_29 : decode cX6_lay 29 = .ok (.dup, 1) := by decide +kernel
theorem dX6_lay_30 : decode cX6_lay 30 = .ok (.getfield 164, 3) := by decide +kernel
theorem dX6_lay_33 : decode cX6_lay 33 = .ok (.iconst 1, 1) := by decide +kernel
theorem dX6_lay_34 : decode cX6_lay 34 = .ok (.iload_n 1, 1) := by decide +kernel
theorem dX6_lay_35 : decode cX6_lay 35 = .ok (.iconst 2, 1) := by decide +kernel
theorem dX6_lay_36 : decode cX6_lay 36 = .ok (.idiv, 1) := by decide +kernel
theorem dX6_lay_37 : decode cX6_lay 37 = .ok (.ishl, 1) := by decide +kernel
theorem dX6_lay_38 : decode cX6_lay 38 = .ok (.ior, 1) := by decide +kernel
theorem dX6_lay_39 : decode cX6_lay 39 = .ok (.putfield 164, 3) := by decide +kernel
theorem dX6_lay_42 : decode cX6_lay 42 = .ok (.aload_n 0, 1) := by decide +kernel
theorem dX6_lay_43 : decode cX6_lay 43 = .ok (.dup, 1) := by decide +kernel
theorem dX6_lay_44 : decode cX6_lay 44 = .ok (.getfield 155, 3) := by decide +kernel
theorem dX6_lay_47 : decode cX6_lay 47 = .ok (.iconst 1, 1) := by decide +kernel
theorem dX6_lay_48 : decode cX6_lay 48 = .ok (.aload_n 0, 1) := by decide +kernel
theorem dX6_lay_49 : decode cX6_lay 49 = .ok (.getfield 62, 3) := by decide +kernel
theorem dX6_lay_52 : decode cX6_lay 52 = .ok (.iload_n 2, 1) := by decide +kernel
theorem dX6_lay_53 : decode cX6_lay 53 = .ok (.iconst 1, 1) := by decide +kernel
theorem dX6_lay_54 : decode cX6_lay 54 = .ok (.isub, 1) := by decide +kernel
theorem dX6_lay_55 : decode cX6_lay 55 = .ok (.iaload, 1) := by decide +kernel
theorem dX6_lay_56 : decode cX6_lay 56 = .ok (.iconst 2, 1) := by decide +kernel
theorem dX6_lay_57 : decode cX6_lay 57 = .ok (.idiv, 1) := by decide +kernel
theorem dX6_lay_58 : decode cX6_lay 58 = .ok (.ishl, 1) := by decide +kernel
theorem dX6_lay_59 : decode cX6_lay 59 = .ok (.ior, 1) := by decide +kernel
theorem dX6_lay_60 : decode cX6_lay 60 = .ok (.putfield 155, 3) := by decide +kernel
theorem dX6_lay_63 : decode cX6_lay 63 = .ok (.iload_n 2, 1) := by decide +kernel
theorem dX6_lay_64 : decode cX6_lay 64 = .ok (.iconst 1, 1) := by decide +kernel
theorem dX6_lay_65 : decode cX6_lay 65 = .ok (.isub, 1) := by decide +kernel
theorem dX6_lay_66 : decode cX6_lay 66 = .ok (.istore_n 3, 1) := by decide +kernel
theorem dX6_lay_67 : decode cX6_lay 67 = .ok (.iload_n 3, 1) := by decide +kernel
theorem dX6_lay_68 : decode cX6_lay 68 = .ok (.ifCond .le 65, 3) := by decide +kernel
theorem dX6_lay_71 : decode cX6_lay 71 = .ok (.aload_n 0, 1) := by decide +kernel
theorem dX6_lay_72 : decode cX6_lay 72 = .ok (.getfield 62, 3) := by decide +kernel
theorem dX6_lay_75 : decode cX6_lay 75 = .ok (.iload_n 3, 1) := by decide +kernel
theorem dX6_lay_76 : decode cX6_lay 76 = .ok (.iaload, 1) := by decide +kernel
theorem dX6_lay_77 : decode cX6_lay 77 = .ok (.istore 4, 2) := by decide +kernel
theorem dX6_lay_79 : decode cX6_lay 79 = .ok (.aload_n 0, 1) := by decide +kernel
theorem dX6_lay_80 : decode cX6_lay 80 = .ok (.getfield 62, 3) := by decide +kernel
theorem dX6_lay_83 : decode cX6_lay 83 = .ok (.iload_n 3, 1) := by decide +kernel
theorem dX6_lay_84 : decode cX6_lay 84 = .ok (.iconst 1, 1) := by decide +kernel
theorem dX6_lay_85 : decode cX6_lay 85 = .ok (.isub, 1) := by decide +kernel
theorem dX6_lay_86 : decode cX6_lay 86 = .ok (.iaload, 1) := by decide +kernel
theorem dX6_lay_87 : decode cX6_lay 87 = .ok (.istore 5, 2) := by decide +kernel
theorem dX6_lay_89 : decode cX6_lay 89 = .ok (.iload 4, 2) := by decide +kernel
theorem dX6_lay_91 : decode cX6_lay 91 = .ok (.iconst 2, 1) := by decide +kernel
theorem dX6_lay_92 : decode cX6_lay 92 = .ok (.idiv, 1) := by decide +kernel
theorem dX6_lay_93 : decode cX6_lay 93 = .ok (.iload 5, 2) := by decide +kernel
theorem dX6_lay_95 : decode cX6_lay 95 = .ok (.iconst 2, 1) := by decide +kernel
theorem dX6_lay_96 : decode cX6_lay 96 = .ok (.idiv, 1) := by decide +kernel
theorem dX6_lay_97 : decode cX6_lay 97 = .ok (.if_icmp .eq 30, 3) := by decide +kernel
theorem dX6_lay_100 : decode cX6_lay 100 = .ok (.iload 4, 2) := by decide +kernel
theorem dX6_lay_102 : decode cX6_lay 102 = .ok (.iconst 2, 1) := by decide +kernel
theorem dX6_lay_103 : decode cX6_lay 103 = .ok (.irem, 1) := by decide +kernel
theorem dX6_lay_104 : decode cX6_lay 104 = .ok (.ifCond .ne 23, 3) := by decide +kernel
theorem dX6_lay_107 : decode cX6_lay 107 = .ok (.aload_n 0, 1) := by decide +kernel
theorem dX6_lay_108 : decode cX6_lay 108 = .ok (.getfield 50, 3) := by decide +kernel
theorem dX6_lay_111 : decode cX6_lay 111 = .ok (.iload 5, 2) := by decide +kernel
theorem dX6_lay_113 : decode cX6_lay 113 = .ok (.iconst 2, 1) := by decide +kernel
theorem dX6_lay_114 : decode cX6_lay 114 = .ok (.idiv, 1) := by decide +kernel
theorem dX6_lay_115 : decode cX6_lay 115 = .ok (.iconst (-1), 1) := by decide +kernel
theorem dX6_lay_116 : decode cX6_lay 116 = .ok (.iastore, 1) := by decide +kernel
theorem dX6_lay_117 : decode cX6_lay 117 = .ok (.aload_n 0, 1) := by decide +kernel
theorem dX6_lay_118 : decode cX6_lay 118 = .ok (.getfield 53, 3) := by decide +kernel
theorem dX6_lay_121 : decode cX6_lay 121 = .ok (.iload 4, 2) := by decide +kernel
theorem dX6_lay_123 : decode cX6_lay 123 = .ok (.iconst 2, 1) := by decide +kernel
theorem dX6_lay_124 : decode cX6_lay 124 = .ok (.idiv, 1) := by decide +kernel
theorem dX6_lay_125 : decode cX6_lay 125 = .ok (.iconst (-1), 1) := by decide +kernel
theorem dX6_lay_126 : decode cX6_lay 126 = .ok (.iastore, 1) := by decide +kernel
theorem dX6_lay_127 : decode cX6_lay 127 = .ok (.iinc 3 (-1), 3) := by decide +kernel
theorem dX6_lay_130 : decode cX6_lay 130 = .ok (.goto (-63), 3) := by decide +kernel
theorem dX6_lay_133 : decode cX6_lay 133 = .ok (.iload_n 2, 1) := by decide +kernel
theorem dX6_lay_134 : decode cX6_lay 134 = .ok (.iconst 1, 1) := by decide +kernel
theorem dX6_lay_135 : decode cX6_lay 135 = .ok (.isub, 1) := by decide +kernel
theorem dX6_lay_136 : decode cX6_lay 136 = .ok (.istore_n 3, 1) := by decide +kernel
theorem dX6_lay_137 : decode cX6_lay 137 = .ok (.iload_n 3, 1) := by decide +kernel
theorem dX6_lay_138 : decode cX6_lay 138 = .ok (.ifCond .le 72, 3) := by decide +kernel
theorem dX6_lay_141 : decode cX6_lay 141 = .ok (.aload_n 0, 1) := by decide +kernel
theorem dX6_lay_142 : decode cX6_lay 142 = .ok (.getfield 62, 3) := by decide +kernel
theorem dX6_lay_145 : decode cX6_lay 145 = .ok (.iload_n 3, 1) := by decide +kernel
theorem dX6_lay_146 : decode cX6_lay 146 = .ok (.iaload, 1) := by decide +kernel
theorem dX6_lay_147 : decode cX6_lay 147 = .ok (.istore 4, 2) := by decide +kernel
theorem dX6_lay_149 : decode cX6_lay 149 = .ok (.aload_n 0, 1) := by decide +kernel
theorem dX6_lay_150 : decode cX6_lay 150 = .ok (.getfield 62, 3) := by decide +kernel
theorem dX6_lay_153 : decode cX6_lay 153 = .ok (.iload_n 3, 1) := by decide +kernel
theorem dX6_lay_154 : decode cX6_lay 154 = .ok (.iconst 1, 1) := by decide +kernel
theorem dX6_lay_155 : decode cX6_lay 155 = .ok (.isub, 1) := by decide +kernel
theorem dX6_lay_156 : decode cX6_lay 156 = .ok (.iaload, 1) := by decide +kernel
theorem dX6_lay_157 : decode cX6_lay 157 = .ok (.istore 5, 2) := by decide +kernel
theorem dX6_lay_159 : decode cX6_lay 159 = .ok (.iload 4, 2) := by decide +kernel
theorem dX6_lay_161 : decode cX6_lay 161 = .ok (.iconst 2, 1) := by decide +kernel
theorem dX6_lay_162 : decode cX6_lay 162 = .ok (.idiv, 1) := by decide +kernel
theorem dX6_lay_163 : decode cX6_lay 163 = .ok (.iload 5, 2) := by decide +kernel
theorem dX6_lay_165 : decode cX6_lay 165 = .ok (.iconst 2, 1) := by decide +kernel
theorem dX6_lay_166 : decode cX6_lay 166 = .ok (.idiv, 1) := by decide +kernel
theorem dX6_lay_167 : decode cX6_lay 167 = .ok (.if_icmp .eq 37, 3) := by decide +kernel
theorem dX6_lay_170 : decode cX6_lay 170 = .ok (.iload 4, 2) := by decide +kernel
theorem dX6_lay_172 : decode cX6_lay 172 = .ok (.iconst 2, 1) := by decide +kernel
theorem dX6_lay_173 : decode cX6_lay 173 = .ok (.irem, 1) := by decide +kernel
theorem dX6_lay_174 : decode cX6_lay 174 = .ok (.iconst 1, 1) := by decide +kernel
theorem dX6_lay_175 : decode cX6_lay 175 = .ok (.if_icmp .ne 29, 3) := by decide +kernel
theorem dX6_lay_178 : decode cX6_lay 178 = .ok (.aload_n 0, 1) := by decide +kernel
theorem dX6_lay_179 : decode cX6_lay 179 = .ok (.getfield 50, 3) := by decide +kernel
theorem dX6_lay_182 : decode cX6_lay 182 = .ok (.iload 4, 2) := by decide +kernel
theorem dX6_lay_184 : decode cX6_lay 184 = .ok (.iconst 2, 1) := by decide +kernel
theorem dX6_lay_185 : decode cX6_lay 185 = .ok (.idiv, 1) := by decide +kernel
theorem dX6_lay_186 : decode cX6_lay 186 = .ok (.iload 5, 2) := by decide +kernel
theorem dX6_lay_188 : decode cX6_lay 188 = .ok (.iconst 2, 1) := by decide +kernel
theorem dX6_lay_189 : decode cX6_lay 189 = .ok (.idiv, 1) := by decide +kernel
theorem dX6_lay_190 : decode cX6_lay 190 = .ok (.iastore, 1) := by decide +kernel
theorem dX6_lay_191 : decode cX6_lay 191 = .ok (.aload_n 0, 1) := by decide +kernel
theorem dX6_lay_192 : decode cX6_lay 192 = .ok (.getfield 53, 3) := by decide +kernel
theorem dX6_lay_195 : decode cX6_lay 195 = .ok (.iload 5, 2) := by decide +kernel
theorem dX6_lay_197 : decode cX6_lay 197 = .ok (.iconst 2, 1) := by decide +kernel
theorem dX6_lay_198 : decode cX6_lay 198 = .ok (.idiv, 1) := by decide +kernel
theorem dX6_lay_199 : decode cX6_lay 199 = .ok (.iload 4, 2) := by decide +kernel
theorem dX6_lay_201 : decode cX6_lay 201 = .ok (.iconst 2, 1) := by decide +kernel
theorem dX6_lay_202 : decode cX6_lay 202 = .ok (.idiv, 1) := by decide +kernel
theorem dX6_lay_203 : decode cX6_lay 203 = .ok (.iastore, 1) := by decide +kernel
theorem dX6_lay_204 : decode cX6_lay 204 = .ok (.iinc 3 (-1), 3) := by decide +kernel
theorem dX6_lay_207 : decode cX6_lay 207 = .ok (.goto (-70), 3) := by decide +kernel
theorem dX6_lay_210 : decode cX6_lay 210 = .ok (.return_, 1) := by decide +kernel
theorem dX6_apart_0 : decode cX6_apart 0 = .ok (.iload_n 1, 1) := by decide +kernel
theorem dX6_apart_1 : decode cX6_apart 1 = .ok (.invokestatic 69, 3) := by decide +kernel
theorem dX6_apart_4 : decode cX6_apart 4 = .ok (.ifCond .eq 39, 3) := by decide +kernel
theorem dX6_apart_7 : decode cX6_apart 7 = .ok (.iload_n 2, 1) := by decide +kernel
theorem dX6_apart_8 : decode cX6_apart 8 = .ok (.iconst 0, 1) := by decide +kernel
theorem dX6_apart_9 : decode cX6_apart 9 = .ok (.iconst 1, 1) := by decide +kernel
theorem dX6_apart_10 : decode cX6_apart 10 = .ok (.aload_n 0, 1) := by decide +kernel
theorem dX6_apart_11 : decode cX6_apart 11 = .ok (.getfield 7, 3) := by decide +kernel
theorem dX6_apart_14 : decode cX6_apart 14 = .ok (.iload_n 1, 1) := by decide +kernel
theorem dX6_apart_15 : decode cX6_apart 15 = .ok (.iaload, 1) := by decide +kernel
theorem dX6_apart_16 : decode cX6_apart 16 = .ok (.ishl, 1) := by decide +kernel
theorem dX6_apart_17 : decode cX6_apart 17 = .ok (.iconst 1, 1) := by decide +kernel
theorem dX6_apart_18 : decode cX6_apart 18 = .ok (.isub, 1) := by decide +kernel
theorem dX6_apart_19 : decode cX6_apart 19 = .ok (.invokestatic 65, 3) := by decide +kernel
theorem dX6_apart_22 : decode cX6_apart 22 = .ok (.ifCond .eq 21, 3) := by decide +kernel
theorem dX6_apart_25 : decode cX6_apart 25 = .ok (.iload_n 3, 1) := by decide +kernel
theorem dX6_apart_26 : decode cX6_apart 26 = .ok (.iconst 0, 1) := by decide +kernel
theorem dX6_apart_27 : decode cX6_apart 27 = .ok (.iconst 1, 1) := by decide +kernel
theorem dX6_apart_28 : decode cX6_apart 28 = .ok (.aload_n 0, 1) := by decide +kernel
theorem dX6_apart_29 : decode cX6_apart 29 = .ok (.getfield 7, 3) := by decide +kernel
theorem dX6_apart_32 : decode cX6_apart 32 = .ok (.iload_n 1, 1) := by decide +kernel
theorem dX6_apart_33 : decode cX6_apart 33 = .ok (.iaload, 1) := by decide +kernel
theorem dX6_apart_34 : decode cX6_apart 34 = .ok (.ishl, 1) := by decide +kernel
theorem dX6_apart_35 : decode cX6_apart 35 = .ok (.iconst 1, 1) := by decide +kernel
theorem dX6_apart_36 : decode cX6_apart 36 = .ok (.isub, 1) := by decide +kernel
theorem dX6_apart_37 : decode cX6_apart 37 = .ok (.invokestatic 65, 3) := by decide +kernel
theorem dX6_apart_40 : decode cX6_apart 40 = .ok (.ifCond .ne 6, 3) := by decide +kernel
theorem dX6_apart_43 : decode cX6_apart 43 = .ok (.bipush (-2), 2) := by decide +kernel
theorem dX6_apart_45 : decode cX6_apart 45 = .ok (.ireturn, 1) := by decide +kernel
theorem dX6_apart_46 : decode cX6_apart 46 = .ok (.iconst 0, 1) := by decide +kernel
theorem dX6_apart_47 : decode cX6_apart 47 = .ok (.istore 4, 2) := by decide +kernel
theorem dX6_apart_49 : decode cX6_apart 49 = .ok (.iload 4, 2) := by decide +kernel
theorem dX6_apart_51 : decode cX6_apart 51 = .ok (.bipush 10, 2) := by decide +kernel
theorem dX6_apart_53 : decode cX6_apart 53 = .ok (.if_icmp .ge 25, 3) := by decide +kernel
theorem dX6_apart_56 : decode cX6_apart 56 = .ok (.aload_n 0, 1) := by decide +kernel
theorem dX6_apart_57 : decode cX6_apart 57 = .ok (.getfield 50, 3) := by decide +kernel
theorem dX6_apart_60 : decode cX6_apart 60 = .ok (.iload 4, 2) := by decide +kernel
theorem dX6_apart_62 : decode cX6_apart 62 = .ok (.iconst (-1), 1) := by decide +kernel
theorem dX6_apart_63 : decode cX6_apart 63 = .ok (.iastore, 1) := by decide +kernel
theorem dX6_apart_64 : decode cX6_apart 64 = .ok (.aload_n 0, 1) := by decide +kernel
theorem dX6_apart_65 : decode cX6_apart 65 = .ok (.getfield 53, 3) := by decide +kernel
theorem dX6_apart_68 : decode cX6_apart 68 = .ok (.iload 4, 2) := by decide +kernel
theorem dX6_apart_70 : decode cX6_apart 70 = .ok (.iconst (-1), 1) := by decide +kernel
theorem dX6_apart_71 : decode cX6_apart 71 = .ok (.iastore, 1) := by decide +kernel
theorem dX6_apart_72 : decode cX6_apart 72 = .ok (.iinc 4 1, 3) := by decide +kernel
theorem dX6_apart_75 : decode cX6_apart 75 = .ok (.goto (-26), 3) := by decide +kernel
theorem dX6_apart_78 : decode cX6_apart 78 = .ok (.aload_n 0, 1) := by decide +kernel
theorem dX6_apart_79 : decode cX6_apart 79 = .ok (.iconst 0, 1) := by decide +kernel
theorem dX6_apart_80 : decode cX6_apart 80 = .ok (.putfield 155, 3) := by decide +kernel
theorem dX6_apart_83 : decode cX6_apart 83 = .ok (.aload_n 0, 1) := by decide +kernel
theorem dX6_apart_84 : decode cX6_apart 84 = .ok (.iconst 0, 1) := by decide +kernel
theorem dX6_apart_85 : decode cX6_apart 85 = .ok (.putfield 164, 3) := by decide +kernel
theorem dX6_apart_88 : decode cX6_apart 88 = .ok (.iconst 0, 1) := by decide +kernel
theorem dX6_apart_89 : decode cX6_apart 89 = .ok (.istore 4, 2) := by decide +kernel
theorem dX6_apart_91 : decode cX6_apart 91 = .ok (.aload_n 0, 1) := by decide +kernel
theorem dX6_apart_92 : decode cX6_apart 92 = .ok (.iload_n 1, 1) := by decide +kernel
theorem dX6_apart_93 : decode cX6_apart 93 = .ok (.iload_n 2, 1) := by decide +kernel
theorem dX6_apart_94 : decode cX6_apart 94 = .ok (.iload_n 3, 1) := by decide +kernel
theorem dX6_apart_95 : decode cX6_apart 95 = .ok (.invokevirtual 170, 3) := by decide +kernel
theorem dX6_apart_98 : decode cX6_apart 98 = .ok (.ifCond .eq 9, 3) := by decide +kernel
theorem dX6_apart_101 : decode cX6_apart 101 = .ok (.iinc 4 1, 3) := by decide +kernel
theorem dX6_apart_104 : decode cX6_apart 104 = .ok (.goto (-13), 3) := by decide +kernel
theorem dX6_apart_107 : decode cX6_apart 107 = .ok (.iload 4, 2) := by decide +kernel
theorem dX6_apart_109 : decode cX6_apart 109 = .ok (.ireturn, 1) := by decide +kernel
theorem dX6_distanceOf_0 : decode cX6_distanceOf 0 = .ok (.iconst 1, 1) := by decide +kernel
theorem dX6_distanceOf_1 : decode cX6_distanceOf 1 = .ok (.iload_n 2, 1) := by decide +kernel
theorem dX6_distanceOf_2 : decode cX6_distanceOf 2 = .ok (.ishl, 1) := by decide +kernel
theorem dX6_distanceOf_3 : decode cX6_distanceOf 3 = .ok (.istore 5, 2) := by decide +kernel
theorem dX6_distanceOf_5 : decode cX6_distanceOf 5 = .ok (.iconst 0, 1) := by decide +kernel
theorem dX6_distanceOf_6 : decode cX6_distanceOf 6 = .ok (.istore 6, 2) := by decide +kernel
theorem dX6_distanceOf_8 : decode cX6_distanceOf 8 = .ok (.iload 6, 2) := by decide +kernel
theorem dX6_distanceOf_10 : decode cX6_distanceOf 10 = .ok (.aload_n 0, 1) := by decide +kernel
theorem dX6_distanceOf_11 : decode cX6_distanceOf 11 = .ok (.getfield 7, 3) := by decide +kernel
theorem dX6_distanceOf_14 : decode cX6_distanceOf 14 = .ok (.iload_n 1, 1) := by decide +kernel
theorem dX6_distanceOf_15 : decode cX6_distanceOf 15 = .ok (.iaload, 1) := by decide +kernel
theorem dX6_distanceOf_16 : decode cX6_distanceOf 16 = .ok (.if_icmp .gt 123, 3) := by decide +kernel
theorem dX6_distanceOf_19 : decode cX6_distanceOf 19 = .ok (.iload 5, 2) := by decide +kernel
theorem dX6_distanceOf_21 : decode cX6_distanceOf 21 = .ok (.iload_n 3, 1) := by decide +kernel
theorem dX6_distanceOf_22 : decode cX6_distanceOf 22 = .ok (.ishr, 1) := by decide +kernel
theorem dX6_distanceOf_23 : decode cX6_distanceOf 23 = .ok (.iconst 1, 1) := by decide +kernel
theorem dX6_distanceOf_24 : decode cX6_distanceOf 24 = .ok (.iand, 1) := by decide +kernel
theorem dX6_distanceOf_25 : decode cX6_distanceOf 25 = .ok (.iconst 1, 1) := by decide +kernel
theorem dX6_distanceOf_26 : decode cX6_distanceOf 26 = .ok (.if_icmp .ne 6, 3) := by decide +kernel
theorem dX6_distanceOf_29 : decode cX6_distanceOf 29 = .ok (.iload 6, 2) := by decide +kernel
theorem dX6_distanceOf_31 : decode cX6_distanceOf 31 = .ok (.ireturn, 1) := by decide +kernel
theorem dX6_distanceOf_32 : decode cX6_distanceOf 32 = .ok (.iload 5, 2) := by decide +kernel
theorem dX6_distanceOf_34 : decode cX6_distanceOf 34 = .ok (.istore 7, 2) := by decide +kernel
theorem dX6_distanceOf_36 : decode cX6_distanceOf 36 = .ok (.iconst 0, 1) := by decide +kernel
theorem dX6_distanceOf_37 : decode cX6_distanceOf 37 = .ok (.istore 8, 2) := by decide +kernel
theorem dX6_distanceOf_39 : decode cX6_distanceOf 39 = .ok (.iload 8, 2) := by decide +kernel
theorem dX6_distanceOf_41 : decode cX6_distanceOf 41 = .ok (.aload_n 0, 1) := by decide +kernel
theorem dX6_distanceOf_42 : decode cX6_distanceOf 42 = .ok (.getfield 105, 3) := by decide +kernel
theorem dX6_distanceOf_45 : decode cX6_distanceOf 45 = .ok (.if_icmp .ge 84, 3) := by decide +kernel
theorem dX6_distanceOf_48 : decode cX6_distanceOf 48 = .ok (.iload 8, 2) := by decide +kernel
theorem dX6_distanceOf_50 : decode cX6_distanceOf 50 = .ok (.iload 4, 2) := by decide +kernel
theorem dX6_distanceOf_52 : decode cX6_distanceOf 52 = .ok (.if_icmp .eq 71, 3) := by decide +kernel
theorem dX6_distanceOf_55 : decode cX6_distanceOf 55 = .ok (.iload 7, 2) := by decide +kernel
theorem dX6_distanceOf_57 : decode cX6_distanceOf 57 = .ok (.iload 5, 2) := by decide +kernel
theorem dX6_distanceOf_59 : decode cX6_distanceOf 59 = .ok (.aload_n 0, 1) := by decide +kernel
theorem dX6_distanceOf_60 : decode cX6_distanceOf 60 = .ok (.getfield 22, 3) := by decide +kernel
theorem dX6_distanceOf_63 : decode cX6_distanceOf 63 = .ok (.iload 8, 2) := by decide +kernel
theorem dX6_distanceOf_65 : decode cX6_distanceOf 65 = .ok (.iaload, 1) := by decide +kernel
theorem dX6_distanceOf_66 : decode cX6_distanceOf 66 = .ok (.ishr, 1) := by decide +kernel
theorem dX6_distanceOf_67 : decode cX6_distanceOf 67 = .ok (.iconst 1, 1) := by decide +kernel
theorem dX6_distanceOf_68 : decode cX6_distanceOf 68 = .ok (.iand, 1) := by decide +kernel
theorem dX6_distanceOf_69 : decode cX6_distanceOf 69 = .ok (.iconst 1, 1) := by decide +kernel
theorem dX6_distanceOf_70 : decode cX6_distanceOf 70 = .ok (.if_icmp .ne 15, 3) := by decide +kernel
theorem dX6_distanceOf_73 : decode cX6_distanceOf 73 = .ok (.iconst 1, 1) := by decide +kernel
theorem dX6_distanceOf_74 : decode cX6_distanceOf 74 = .ok (.aload_n 0, 1) := by decide +kernel
theorem dX6_distanceOf_75 : decode cX6_distanceOf 75 = .ok (.getfield 25, 3) := by decide +kernel
theorem dX6_distanceOf_78 : decode cX6_distanceOf 78 = .ok (.iload 8, 2) := by decide +kernel
theorem dX6_distanceOf_80 : decode cX6_distanceOf 80 = .ok (.iaload, 1) := by decide +kernel
theorem dX6_distanceOf_81 : decode cX6_distanceOf 81 = .ok (.ishl, 1) := by decide +kernel
theorem dX6_distanceOf_82 : decode cX6_distanceOf 82 = .ok (.goto 4, 3) := by decide +kernel
theorem dX6_distanceOf_85 : decode cX6_distanceOf 85 = .ok (.iconst 0, 1) := by decide +kernel
theorem dX6_distanceOf_86 : decode cX6_distanceOf 86 = .ok (.ior, 1) := by decide +kernel
theorem dX6_distanceOf_87 : decode cX6_distanceOf 87 = .ok (.istore 7, 2) := by decide +kernel
theorem dX6_distanceOf_89 : decode cX6_distanceOf 89 = .ok (.iload 7, 2) := by decide +kernel
theorem dX6_distanceOf_91 : decode cX6_distanceOf 91 = .ok (.iload 5, 2) := by decide +kernel
theorem dX6_distanceOf_93 : decode cX6_distanceOf 93 = .ok (.aload_n 0, 1) := by decide +kernel
theorem dX6_distanceOf_94 : decode cX6_distanceOf 94 = .ok (.getfield 25, 3) := by decide +kernel
theorem dX6_distanceOf_97 : decode cX6_distanceOf 97 = .ok (.iload 8, 2) := by decide +kernel
theorem dX6_distanceOf_99 : decode cX6_distanceOf 99 = .ok (.iaload, 1) := by decide +kernel
theorem dX6_distanceOf_100 : decode cX6_distanceOf 100 = .ok (.ishr, 1) := by decide +kernel
theorem dX6_distanceOf_101 : decode cX6_distanceOf 101 = .ok (.iconst 1, 1) := by decide +kernel
theorem dX6_distanceOf_102 : decode cX6_distanceOf 102 = .ok (.iand, 1) := by decide +kernel
theorem dX6_distanceOf_103 : decode cX6_distanceOf 103 = .ok (.iconst 1, 1) := by decide +kernel
theorem dX6_distanceOf_104 : decode cX6_distanceOf 104 = .ok (.if_icmp .ne 15, 3) := by decide +kernel
theorem dX6_distanceOf_107 : decode cX6_distanceOf 107 = .ok (.iconst 1, 1) := by decide +kernel
theorem dX6_distanceOf_108 : decode cX6_distanceOf 108 = .ok (.aload_n 0, 1) := by decide +kernel
theorem dX6_distanceOf_109 : decode cX6_distanceOf 109 = .ok (.getfield 22, 3) := by decide +kernel
theorem dX6_distanceOf_112 : decode cX6_distanceOf 112 = .ok (.iload 8, 2) := by decide +kernel
theorem dX6_distanceOf_114 : decode cX6_distanceOf 114 = .ok (.iaload, 1) := by decide +kernel
theorem dX6_distanceOf_115 : decode cX6_distanceOf 115 = .ok (.ishl, 1) := by decide +kernel
theorem dX6_distanceOf_116 : decode cX6_distanceOf 116 = .ok (.goto 4, 3) := by decide +kernel
theorem dX6_distanceOf_119 : decode cX6_distanceOf 119 = .ok (.iconst 0, 1) := by decide +kernel
theorem dX6_distanceOf_120 : decode cX6_distanceOf 120 = .ok (.ior, 1) := by decide +kernel
theorem dX6_distanceOf_121 : decode cX6_distanceOf 121 = .ok (.istore 7, 2) := by decide +kernel
theorem dX6_distanceOf_123 : decode cX6_distanceOf 123 = .ok (.iinc 8 1, 3) := by decide +kernel
theorem dX6_distanceOf_126 : decode cX6_distanceOf 126 = .ok (.goto (-87), 3) := by decide +kernel
theorem dX6_distanceOf_129 : decode cX6_distanceOf 129 = .ok (.iload 7, 2) := by decide +kernel
theorem dX6_distanceOf_131 : decode cX6_distanceOf 131 = .ok (.istore 5, 2) := by decide +kernel
theorem dX6_distanceOf_133 : decode cX6_distanceOf 133 = .ok (.iinc 6 1, 3) := by decide +kernel
theorem dX6_distanceOf_136 : decode cX6_distanceOf 136 = .ok (.goto (-128), 3) := by decide +kernel
theorem dX6_distanceOf_139 : decode cX6_distanceOf 139 = .ok (.iconst (-1), 1) := by decide +kernel
theorem dX6_distanceOf_140 : decode cX6_distanceOf 140 = .ok (.ireturn, 1) := by decide +kernel
theorem dX6_distance_0 : decode cX6_distance 0 = .ok (.aload_n 0, 1) := by decide +kernel
theorem dX6_distance_1 : decode cX6_distance 1 = .ok (.iload_n 1, 1) := by decide +kernel
theorem dX6_distance_2 : decode cX6_distance 2 = .ok (.iload_n 2, 1) := by decide +kernel
theorem dX6_distance_3 : decode cX6_distance 3 = .ok (.invokevirtual 81, 3) := by decide +kernel
theorem dX6_distance_6 : decode cX6_distance 6 = .ok (.ifCond .eq 12, 3) := by decide +kernel
theorem dX6_distance_9 : decode cX6_distance 9 = .ok (.aload_n 0, 1) := by decide +kernel
theorem dX6_distance_10 : decode cX6_distance 10 = .ok (.iload_n 1, 1) := by decide +kernel
theorem dX6_distance_11 : decode cX6_distance 11 = .ok (.iload_n 3, 1) := by decide +kernel
theorem dX6_distance_12 : decode cX6_distance 12 = .ok (.invokevirtual 81, 3) := by decide +kernel
theorem dX6_distance_15 : decode cX6_distance 15 = .ok (.ifCond .ne 6, 3) := by decide +kernel
theorem dX6_distance_18 : decode cX6_distance 18 = .ok (.bipush (-2), 2) := by decide +kernel
theorem dX6_distance_20 : decode cX6_distance 20 = .ok (.ireturn, 1) := by decide +kernel
theorem dX6_distance_21 : decode cX6_distance 21 = .ok (.aload_n 0, 1) := by decide +kernel
theorem dX6_distance_22 : decode cX6_distance 22 = .ok (.iload_n 1, 1) := by decide +kernel
theorem dX6_distance_23 : decode cX6_distance 23 = .ok (.invokevirtual 109, 3) := by decide +kernel
theorem dX6_distance_26 : decode cX6_distance 26 = .ok (.aload_n 0, 1) := by decide +kernel
theorem dX6_distance_27 : decode cX6_distance 27 = .ok (.iload_n 1, 1) := by decide +kernel
theorem dX6_distance_28 : decode cX6_distance 28 = .ok (.iload_n 2, 1) := by decide +kernel
theorem dX6_distance_29 : decode cX6_distance 29 = .ok (.iload_n 3, 1) := by decide +kernel
theorem dX6_distance_30 : decode cX6_distance 30 = .ok (.iconst (-1), 1) := by decide +kernel
theorem dX6_distance_31 : decode cX6_distance 31 = .ok (.invokevirtual 173, 3) := by decide +kernel
theorem dX6_distance_34 : decode cX6_distance 34 = .ok (.ireturn, 1) := by decide +kernel
theorem dX6_round_0 : decode cX6_round 0 = .ok (.iload_n 1, 1) := by decide +kernel
theorem dX6_round_1 : decode cX6_round 1 = .ok (.invokestatic 69, 3) := by decide +kernel
theorem dX6_round_4 : decode cX6_round 4 = .ok (.ifCond .ne 6, 3) := by decide +kernel
theorem dX6_round_7 : decode cX6_round 7 = .ok (.bipush (-2), 2) := by decide +kernel
theorem dX6_round_9 : decode cX6_round 9 = .ok (.ireturn, 1) := by decide +kernel
theorem dX6_round_10 : decode cX6_round 10 = .ok (.aload_n 0, 1) := by decide +kernel
theorem dX6_round_11 : decode cX6_round 11 = .ok (.iload_n 1, 1) := by decide +kernel
theorem dX6_round_12 : decode cX6_round 12 = .ok (.invokevirtual 109, 3) := by decide +kernel
theorem dX6_round_15 : decode cX6_round 15 = .ok (.iconst (-1), 1) := by decide +kernel
theorem dX6_round_16 : decode cX6_round 16 = .ok (.istore_n 2, 1) := by decide +kernel
theorem dX6_round_17 : decode cX6_round 17 = .ok (.iconst 0, 1) := by decide +kernel
theorem dX6_round_18 : decode cX6_round 18 = .ok (.istore_n 3, 1) := by decide +kernel
theorem dX6_round_19 : decode cX6_round 19 = .ok (.iload_n 3, 1) := by decide +kernel
theorem dX6_round_20 : decode cX6_round 20 = .ok (.aload_n 0, 1) := by decide +kernel
theorem dX6_round_21 : decode cX6_round 21 = .ok (.getfield 105, 3) := by decide +kernel
theorem dX6_round_24 : decode cX6_round 24 = .ok (.if_icmp .ge 55, 3) := by decide +kernel
theorem dX6_round_27 : decode cX6_round 27 = .ok (.aload_n 0, 1) := by decide +kernel
theorem dX6_round_28 : decode cX6_round 28 = .ok (.iload_n 1, 1) := by decide +kernel
theorem dX6_round_29 : decode cX6_round 29 = .ok (.aload_n 0, 1) := by decide +kernel
theorem dX6_round_30 : decode cX6_round 30 = .ok (.getfield 22, 3) := by decide +kernel
theorem dX6_round_33 : decode cX6_round 33 = .ok (.iload_n 3, 1) := by decide +kernel
theorem dX6_round_34 : decode cX6_round 34 = .ok (.iaload, 1) := by decide +kernel
theorem dX6_round_35 : decode cX6_round 35 = .ok (.aload_n 0, 1) := by decide +kernel
theorem dX6_round_36 : decode cX6_round 36 = .ok (.getfield 25, 3) := by decide +kernel
theorem dX6_round_39 : decode cX6_round 39 = .ok (.iload_n 3, 1) := by decide +kernel
theorem dX6_round_40 : decode cX6_round 40 = .ok (.iaload, 1) := by decide +kernel
theorem dX6_round_41 : decode cX6_round 41 = .ok (.iload_n 3, 1) := by decide +kernel
theorem dX6_round_42 : decode cX6_round 42 = .ok (.invokevirtual 173, 3) := by decide +kernel
theorem dX6_round_45 : decode cX6_round 45 = .ok (.istore 4, 2) := by decide +kernel
theorem dX6_round_47 : decode cX6_round 47 = .ok (.iload 4, 2) := by decide +kernel
theorem dX6_round_49 : decode cX6_round 49 = .ok (.ifCond .lt 22, 3) := by decide +kernel
theorem dX6_round_52 : decode cX6_round 52 = .ok (.iload_n 2, 1) := by decide +kernel
theorem dX6_round_53 : decode cX6_round 53 = .ok (.ifCond .lt 11, 3) := by decide +kernel
theorem dX6_round_56 : decode cX6_round 56 = .ok (.iload 4, 2) := by decide +kernel
theorem dX6_round_58 : decode cX6_round 58 = .ok (.iconst 1, 1) := by decide +kernel
theorem dX6_round_59 : decode cX6_round 59 = .ok (.iadd, 1) := by decide +kernel
theorem dX6_round_60 : decode cX6_round 60 = .ok (.iload_n 2, 1) := by decide +kernel
theorem dX6_round_61 : decode cX6_round 61 = .ok (.if_icmp .ge 10, 3) := by decide +kernel
theorem dX6_round_64 : decode cX6_round 64 = .ok (.iload 4, 2) := by decide +kernel
theorem dX6_round_66 : decode cX6_round 66 = .ok (.iconst 1, 1) := by decide +kernel
theorem dX6_round_67 : decode cX6_round 67 = .ok (.iadd, 1) := by decide +kernel
theorem dX6_round_68 : decode cX6_round 68 = .ok (.goto 4, 3) := by decide +kernel
theorem dX6_round_71 : decode cX6_round 71 = .ok (.iload_n 2, 1) := by decide +kernel
theorem dX6_round_72 : decode cX6_round 72 = .ok (.istore_n 2, 1) := by decide +kernel
theorem dX6_round_73 : decode cX6_round 73 = .ok (.iinc 3 1, 3) := by decide +kernel
theorem dX6_round_76 : decode cX6_round 76 = .ok (.goto (-57), 3) := by decide +kernel
theorem dX6_round_79 : decode cX6_round 79 = .ok (.iload_n 2, 1) := by decide +kernel
theorem dX6_round_80 : decode cX6_round 80 = .ok (.ireturn, 1) := by decide +kernel
theorem dX6_oddOnes_0 : decode cX6_oddOnes 0 = .ok (.iconst 0, 1) := by decide +kernel
theorem dX6_oddOnes_1 : decode cX6_oddOnes 1 = .ok (.istore_n 3, 1) := by decide +kernel
theorem dX6_oddOnes_2 : decode cX6_oddOnes 2 = .ok (.iconst 0, 1) := by decide +kernel
theorem dX6_oddOnes_3 : decode cX6_oddOnes 3 = .ok (.istore 4, 2) := by decide +kernel
theorem dX6_oddOnes_5 : decode cX6_oddOnes 5 = .ok (.iload 4, 2) := by decide +kernel
theorem dX6_oddOnes_7 : decode cX6_oddOnes 7 = .ok (.aload_n 0, 1) := by decide +kernel
theorem dX6_oddOnes_8 : decode cX6_oddOnes 8 = .ok (.getfield 105, 3) := by decide +kernel
theorem dX6_oddOnes_11 : decode cX6_oddOnes 11 = .ok (.if_icmp .ge 46, 3) := by decide +kernel
theorem dX6_oddOnes_14 : decode cX6_oddOnes 14 = .ok (.iload_n 3, 1) := by decide +kernel
theorem dX6_oddOnes_15 : decode cX6_oddOnes 15 = .ok (.lload_n 1, 1) := by decide +kernel
theorem dX6_oddOnes_16 : decode cX6_oddOnes 16 = .ok (.iload 4, 2) := by decide +kernel
theorem dX6_oddOnes_18 : decode cX6_oddOnes 18 = .ok (.lshr, 1) := by decide +kernel
theorem dX6_oddOnes_19 : decode cX6_oddOnes 19 = .ok (.lconst 1, 1) := by decide +kernel
theorem dX6_oddOnes_20 : decode cX6_oddOnes 20 = .ok (.land, 1) := by decide +kernel
theorem dX6_oddOnes_21 : decode cX6_oddOnes 21 = .ok (.lconst 1, 1) := by decide +kernel
theorem dX6_oddOnes_22 : decode cX6_oddOnes 22 = .ok (.lcmp, 1) := by decide +kernel
theorem dX6_oddOnes_23 : decode cX6_oddOnes 23 = .ok (.ifCond .ne 25, 3) := by decide +kernel
theorem dX6_oddOnes_26 : decode cX6_oddOnes 26 = .ok (.iconst 1, 1) := by decide +kernel
theorem dX6_oddOnes_27 : decode cX6_oddOnes 27 = .ok (.aload_n 0, 1) := by decide +kernel
theorem dX6_oddOnes_28 : decode cX6_oddOnes 28 = .ok (.getfield 22, 3) := by decide +kernel
theorem dX6_oddOnes_31 : decode cX6_oddOnes 31 = .ok (.iload 4, 2) := by decide +kernel
theorem dX6_oddOnes_33 : decode cX6_oddOnes 33 = .ok (.iaload, 1) := by decide +kernel
theorem dX6_oddOnes_34 : decode cX6_oddOnes 34 = .ok (.ishl, 1) := by decide +kernel
theorem dX6_oddOnes_35 : decode cX6_oddOnes 35 = .ok (.iconst 1, 1) := by decide +kernel
theorem dX6_oddOnes_36 : decode cX6_oddOnes 36 = .ok (.aload_n 0, 1) := by decide +kernel
theorem dX6_oddOnes_37 : decode cX6_oddOnes 37 = .ok (.getfield 25, 3) := by decide +kernel
theorem dX6_oddOnes_40 : decode cX6_oddOnes 40 = .ok (.iload 4, 2) := by decide +kernel
theorem dX6_oddOnes_42 : decode cX6_oddOnes 42 = .ok (.iaload, 1) := by decide +kernel
theorem dX6_oddOnes_43 : decode cX6_oddOnes 43 = .ok (.ishl, 1) := by decide +kernel
theorem dX6_oddOnes_44 : decode cX6_oddOnes 44 = .ok (.ixor, 1) := by decide +kernel
theorem dX6_oddOnes_45 : decode cX6_oddOnes 45 = .ok (.goto 4, 3) := by decide +kernel
theorem dX6_oddOnes_48 : decode cX6_oddOnes 48 = .ok (.iconst 0, 1) := by decide +kernel
theorem dX6_oddOnes_49 : decode cX6_oddOnes 49 = .ok (.ixor, 1) := by decide +kernel
theorem dX6_oddOnes_50 : decode cX6_oddOnes 50 = .ok (.istore_n 3, 1) := by decide +kernel
theorem dX6_oddOnes_51 : decode cX6_oddOnes 51 = .ok (.iinc 4 1, 3) := by decide +kernel
theorem dX6_oddOnes_54 : decode cX6_oddOnes 54 = .ok (.goto (-49), 3) := by decide +kernel
theorem dX6_oddOnes_57 : decode cX6_oddOnes 57 = .ok (.iload_n 3, 1) := by decide +kernel
theorem dX6_oddOnes_58 : decode cX6_oddOnes 58 = .ok (.ireturn, 1) := by decide +kernel
theorem dX6_isWord_0 : decode cX6_isWord 0 = .ok (.iload_n 1, 1) := by decide +kernel
theorem dX6_isWord_1 : decode cX6_isWord 1 = .ok (.invokestatic 69, 3) := by decide +kernel
theorem dX6_isWord_4 : decode cX6_isWord 4 = .ok (.ifCond .ne 5, 3) := by decide +kernel
theorem dX6_isWord_7 : decode cX6_isWord 7 = .ok (.iconst 0, 1) := by decide +kernel
theorem dX6_isWord_8 : decode cX6_isWord 8 = .ok (.ireturn, 1) := by decide +kernel
theorem dX6_isWord_9 : decode cX6_isWord 9 = .ok (.aload_n 0, 1) := by decide +kernel
theorem dX6_isWord_10 : decode cX6_isWord 10 = .ok (.iload_n 1, 1) := by decide +kernel
theorem dX6_isWord_11 : decode cX6_isWord 11 = .ok (.invokevirtual 109, 3) := by decide +kernel
theorem dX6_isWord_14 : decode cX6_isWord 14 = .ok (.lload_n 2, 1) := by decide +kernel
theorem dX6_isWord_15 : decode cX6_isWord 15 = .ok (.lconst 0, 1) := by decide +kernel
theorem dX6_isWord_16 : decode cX6_isWord 16 = .ok (.lcmp, 1) := by decide +kernel
theorem dX6_isWord_17 : decode cX6_isWord 17 = .ok (.ifCond .lt 18, 3) := by decide +kernel
theorem dX6_isWord_20 : decode cX6_isWord 20 = .ok (.lload_n 2, 1) := by decide +kernel
theorem dX6_isWord_21 : decode cX6_isWord 21 = .ok (.aload_n 0, 1) := by decide +kernel
theorem dX6_isWord_22 : decode cX6_isWord 22 = .ok (.getfield 105, 3) := by decide +kernel
theorem dX6_isWord_25 : decode cX6_isWord 25 = .ok (.lshr, 1) := by decide +kernel
theorem dX6_isWord_26 : decode cX6_isWord 26 = .ok (.lconst 0, 1) := by decide +kernel
theorem dX6_isWord_27 : decode cX6_isWord 27 = .ok (.lcmp, 1) := by decide +kernel
theorem dX6_isWord_28 : decode cX6_isWord 28 = .ok (.ifCond .ne 7, 3) := by decide +kernel
theorem dX6_isWord_31 : decode cX6_isWord 31 = .ok (.iconst 1, 1) := by decide +kernel
theorem dX6_isWord_32 : decode cX6_isWord 32 = .ok (.goto 4, 3) := by decide +kernel
theorem dX6_isWord_35 : decode cX6_isWord 35 = .ok (.iconst 0, 1) := by decide +kernel
theorem dX6_isWord_36 : decode cX6_isWord 36 = .ok (.ireturn, 1) := by decide +kernel
theorem dX6_odd_0 : decode cX6_odd 0 = .ok (.aload_n 0, 1) := by decide +kernel
theorem dX6_odd_1 : decode cX6_odd 1 = .ok (.iload_n 1, 1) := by decide +kernel
theorem dX6_odd_2 : decode cX6_odd 2 = .ok (.lload_n 2, 1) := by decide +kernel
theorem dX6_odd_3 : decode cX6_odd 3 = .ok (.invokevirtual 177, 3) := by decide +kernel
theorem dX6_odd_6 : decode cX6_odd 6 = .ok (.ifCond .eq 14, 3) := by decide +kernel
theorem dX6_odd_9 : decode cX6_odd 9 = .ok (.aload_n 0, 1) := by decide +kernel
theorem dX6_odd_10 : decode cX6_odd 10 = .ok (.lload_n 2, 1) := by decide +kernel
theorem dX6_odd_11 : decode cX6_odd 11 = .ok (.invokevirtual 181, 3) := by decide +kernel
theorem dX6_odd_14 : decode cX6_odd 14 = .ok (.invokestatic 73, 3) := by decide +kernel
theorem dX6_odd_17 : decode cX6_odd 17 = .ok (.goto 5, 3) := by decide +kernel
theorem dX6_odd_20 : decode cX6_odd 20 = .ok (.bipush (-2), 2) := by decide +kernel
theorem dX6_odd_22 : decode cX6_odd 22 = .ok (.ireturn, 1) := by decide +kernel
theorem dX6_flipped_0 : decode cX6_flipped 0 = .ok (.aload_n 0, 1) := by decide +kernel
theorem dX6_flipped_1 : decode cX6_flipped 1 = .ok (.iload_n 1, 1) := by decide +kernel
theorem dX6_flipped_2 : decode cX6_flipped 2 = .ok (.lload_n 2, 1) := by decide +kernel
theorem dX6_flipped_3 : decode cX6_flipped 3 = .ok (.invokevirtual 177, 3) := by decide +kernel
theorem dX6_flipped_6 : decode cX6_flipped 6 = .ok (.ifCond .ne 7, 3) := by decide +kernel
theorem dX6_flipped_9 : decode cX6_flipped 9 = .ok (.ldc2_w 145, 3) := by decide +kernel
theorem dX6_flipped_12 : decode cX6_flipped 12 = .ok (.lreturn, 1) := by decide +kernel
theorem dX6_flipped_13 : decode cX6_flipped 13 = .ok (.lload_n 2, 1) := by decide +kernel
theorem dX6_flipped_14 : decode cX6_flipped 14 = .ok (.lstore 4, 2) := by decide +kernel
theorem dX6_flipped_16 : decode cX6_flipped 16 = .ok (.iconst 1, 1) := by decide +kernel
theorem dX6_flipped_17 : decode cX6_flipped 17 = .ok (.istore 6, 2) := by decide +kernel
theorem dX6_flipped_19 : decode cX6_flipped 19 = .ok (.iload 6, 2) := by decide +kernel
theorem dX6_flipped_21 : decode cX6_flipped 21 = .ok (.ifCond .eq 84, 3) := by decide +kernel
theorem dX6_flipped_24 : decode cX6_flipped 24 = .ok (.aload_n 0, 1) := by decide +kernel
theorem dX6_flipped_25 : decode cX6_flipped 25 = .ok (.lload 4, 2) := by decide +kernel
theorem dX6_flipped_27 : decode cX6_flipped 27 = .ok (.invokevirtual 181, 3) := by decide +kernel
theorem dX6_flipped_30 : decode cX6_flipped 30 = .ok (.istore 7, 2) := by decide +kernel
theorem dX6_flipped_32 : decode cX6_flipped 32 = .ok (.iconst 0, 1) := by decide +kernel
theorem dX6_flipped_33 : decode cX6_flipped 33 = .ok (.istore 6, 2) := by decide +kernel
theorem dX6_flipped_35 : decode cX6_flipped 35 = .ok (.iconst 0, 1) := by decide +kernel
theorem dX6_flipped_36 : decode cX6_flipped 36 = .ok (.istore 8, 2) := by decide +kernel
theorem dX6_flipped_38 : decode cX6_flipped 38 = .ok (.iload 8, 2) := by decide +kernel
theorem dX6_flipped_40 : decode cX6_flipped 40 = .ok (.aload_n 0, 1) := by decide +kernel
theorem dX6_flipped_41 : decode cX6_flipped 41 = .ok (.getfield 105, 3) := by decide +kernel
theorem dX6_flipped_44 : decode cX6_flipped 44 = .ok (.if_icmp .ge 58, 3) := by decide +kernel
theorem dX6_flipped_47 : decode cX6_flipped 47 = .ok (.iload 6, 2) := by decide +kernel
theorem dX6_flipped_49 : decode cX6_flipped 49 = .ok (.ifCond .ne 53, 3) := by decide +kernel
theorem dX6_flipped_52 : decode cX6_flipped 52 = .ok (.iload 7, 2) := by decide +kernel
theorem dX6_flipped_54 : decode cX6_flipped 54 = .ok (.aload_n 0, 1) := by decide +kernel
theorem dX6_flipped_55 : decode cX6_flipped 55 = .ok (.getfield 22, 3) := by decide +kernel
theorem dX6_flipped_58 : decode cX6_flipped 58 = .ok (.iload 8, 2) := by decide +kernel
theorem dX6_flipped_60 : decode cX6_flipped 60 = .ok (.iaload, 1) := by decide +kernel
theorem dX6_flipped_61 : decode cX6_flipped 61 = .ok (.ishr, 1) := by decide +kernel
theorem dX6_flipped_62 : decode cX6_flipped 62 = .ok (.iconst 1, 1) := by decide +kernel
theorem dX6_flipped_63 : decode cX6_flipped 63 = .ok (.iand, 1) := by decide +kernel
theorem dX6_flipped_64 : decode cX6_flipped 64 = .ok (.iconst 1, 1) := by decide +kernel
theorem dX6_flipped_65 : decode cX6_flipped 65 = .ok (.if_icmp .ne 31, 3) := by decide +kernel
theorem dX6_flipped_68 : decode cX6_flipped 68 = .ok (.iload 7, 2) := by decide +kernel
theorem dX6_flipped_70 : decode cX6_flipped 70 = .ok (.aload_n 0, 1) := by decide +kernel
theorem dX6_flipped_71 : decode cX6_flipped 71 = .ok (.getfield 25, 3) := by decide +kernel
theorem dX6_flipped_74 : decode cX6_flipped 74 = .ok (.iload 8, 2) := by decide +kernel
theorem dX6_flipped_76 : decode cX6_flipped 76 = .ok (.iaload, 1) := by decide +kernel
theorem dX6_flipped_77 : decode cX6_flipped 77 = .ok (.ishr, 1) := by decide +kernel
theorem dX6_flipped_78 : decode cX6_flipped 78 = .ok (.iconst 1, 1) := by decide +kernel
theorem dX6_flipped_79 : decode cX6_flipped 79 = .ok (.iand, 1) := by decide +kernel
theorem dX6_flipped_80 : decode cX6_flipped 80 = .ok (.iconst 1, 1) := by decide +kernel
theorem dX6_flipped_81 : decode cX6_flipped 81 = .ok (.if_icmp .ne 15, 3) := by decide +kernel
theorem dX6_flipped_84 : decode cX6_flipped 84 = .ok (.lload 4, 2) := by decide +kernel
theorem dX6_flipped_86 : decode cX6_flipped 86 = .ok (.lconst 1, 1) := by decide +kernel
theorem dX6_flipped_87 : decode cX6_flipped 87 = .ok (.iload 8, 2) := by decide +kernel
theorem dX6_flipped_89 : decode cX6_flipped 89 = .ok (.lshl, 1) := by decide +kernel
theorem dX6_flipped_90 : decode cX6_flipped 90 = .ok (.lxor, 1) := by decide +kernel
theorem dX6_flipped_91 : decode cX6_flipped 91 = .ok (.lstore 4, 2) := by decide +kernel
theorem dX6_flipped_93 : decode cX6_flipped 93 = .ok (.iconst 1, 1) := by decide +kernel
theorem dX6_flipped_94 : decode cX6_flipped 94 = .ok (.istore 6, 2) := by decide +kernel
theorem dX6_flipped_96 : decode cX6_flipped 96 = .ok (.iinc 8 1, 3) := by decide +kernel
theorem dX6_flipped_99 : decode cX6_flipped 99 = .ok (.goto (-61), 3) := by decide +kernel
theorem dX6_flipped_102 : decode cX6_flipped 102 = .ok (.goto (-83), 3) := by decide +kernel
theorem dX6_flipped_105 : decode cX6_flipped 105 = .ok (.lload 4, 2) := by decide +kernel
theorem dX6_flipped_107 : decode cX6_flipped 107 = .ok (.lreturn, 1) := by decide +kernel
theorem dX6_digest_0 : decode cX6_digest 0 = .ok (.ldc2_w 185, 3) := by decide +kernel
theorem dX6_digest_3 : decode cX6_digest 3 = .ok (.lstore_n 1, 1) := by decide +kernel
theorem dX6_digest_4 : decode cX6_digest 4 = .ok (.iconst 0, 1) := by decide +kernel
theorem dX6_digest_5 : decode cX6_digest 5 = .ok (.istore_n 3, 1) := by decide +kernel
theorem dX6_digest_6 : decode cX6_digest 6 = .ok (.iload_n 3, 1) := by decide +kernel
theorem dX6_digest_7 : decode cX6_digest 7 = .ok (.iconst 4, 1) := by decide +kernel
theorem dX6_digest_8 : decode cX6_digest 8 = .ok (.if_icmp .ge 63, 3) := by decide +kernel
theorem dX6_digest_11 : decode cX6_digest 11 = .ok (.ldc2_w 187, 3) := by decide +kernel
theorem dX6_digest_14 : decode cX6_digest 14 = .ok (.lload_n 1, 1) := by decide +kernel
theorem dX6_digest_15 : decode cX6_digest 15 = .ok (.lmul, 1) := by decide +kernel
theorem dX6_digest_16 : decode cX6_digest 16 = .ok (.aload_n 0, 1) := by decide +kernel
theorem dX6_digest_17 : decode cX6_digest 17 = .ok (.getfield 7, 3) := by decide +kernel
theorem dX6_digest_20 : decode cX6_digest 20 = .ok (.iload_n 3, 1) := by decide +kernel
theorem dX6_digest_21 : decode cX6_digest 21 = .ok (.iaload, 1) := by decide +kernel
theorem dX6_digest_22 : decode cX6_digest 22 = .ok (.i2l, 1) := by decide +kernel
theorem dX6_digest_23 : decode cX6_digest 23 = .ok (.ladd, 1) := by decide +kernel
theorem dX6_digest_24 : decode cX6_digest 24 = .ok (.lstore_n 1, 1) := by decide +kernel
theorem dX6_digest_25 : decode cX6_digest 25 = .ok (.iconst 0, 1) := by decide +kernel
theorem dX6_digest_26 : decode cX6_digest 26 = .ok (.istore 4, 2) := by decide +kernel
theorem dX6_digest_28 : decode cX6_digest 28 = .ok (.iload 4, 2) := by decide +kernel
theorem dX6_digest_30 : decode cX6_digest 30 = .ok (.aload_n 0, 1) := by decide +kernel
theorem dX6_digest_31 : decode cX6_digest 31 = .ok (.getfield 7, 3) := by decide +kernel
theorem dX6_digest_34 : decode cX6_digest 34 = .ok (.iload_n 3, 1) := by decide +kernel
theorem dX6_digest_35 : decode cX6_digest 35 = .ok (.iaload, 1) := by decide +kernel
theorem dX6_digest_36 : decode cX6_digest 36 = .ok (.if_icmp .ge 29, 3) := by decide +kernel
theorem dX6_digest_39 : decode cX6_digest 39 = .ok (.ldc2_w 187, 3) := by decide +kernel
theorem dX6_digest_42 : decode cX6_digest 42 = .ok (.lload_n 1, 1) := by decide +kernel
theorem dX6_digest_43 : decode cX6_digest 43 = .ok (.lmul, 1) := by decide +kernel
theorem dX6_digest_44 : decode cX6_digest 44 = .ok (.aload_n 0, 1) := by decide +kernel
theorem dX6_digest_45 : decode cX6_digest 45 = .ok (.getfield 13, 3) := by decide +kernel
theorem dX6_digest_48 : decode cX6_digest 48 = .ok (.bipush 10, 2) := by decide +kernel
theorem dX6_digest_50 : decode cX6_digest 50 = .ok (.iload_n 3, 1) := by decide +kernel
theorem dX6_digest_51 : decode cX6_digest 51 = .ok (.imul, 1) := by decide +kernel
theorem dX6_digest_52 : decode cX6_digest 52 = .ok (.iload 4, 2) := by decide +kernel
theorem dX6_digest_54 : decode cX6_digest 54 = .ok (.iadd, 1) := by decide +kernel
theorem dX6_digest_55 : decode cX6_digest 55 = .ok (.iaload, 1) := by decide +kernel
theorem dX6_digest_56 : decode cX6_digest 56 = .ok (.i2l, 1) := by decide +kernel
theorem dX6_digest_57 : decode cX6_digest 57 = .ok (.ladd, 1) := by decide +kernel
theorem dX6_digest_58 : decode cX6_digest 58 = .ok (.lstore_n 1, 1) := by decide +kernel
theorem dX6_digest_59 : decode cX6_digest 59 = .ok (.iinc 4 1, 3) := by decide +kernel
theorem dX6_digest_62 : decode cX6_digest 62 = .ok (.goto (-34), 3) := by decide +kernel
theorem dX6_digest_65 : decode cX6_digest 65 = .ok (.iinc 3 1, 3) := by decide +kernel
theorem dX6_digest_68 : decode cX6_digest 68 = .ok (.goto (-62), 3) := by decide +kernel
theorem dX6_digest_71 : decode cX6_digest 71 = .ok (.lload_n 1, 1) := by decide +kernel
theorem dX6_digest_72 : decode cX6_digest 72 = .ok (.lreturn, 1) := by decide +kernel
theorem dJ6_bitCount_0f7a4_0 : decode cJ6_bitCount_0f7a4 0 = .ok (.iload_n 0, 1) := by decide +kernel
theorem dJ6_bitCount_0f7a4_1 : decode cJ6_bitCount_0f7a4 1 = .ok (.iload_n 0, 1) := by decide +kernel
theorem dJ6_bitCount_0f7a4_2 : decode cJ6_bitCount_0f7a4 2 = .ok (.iconst 1, 1) := by decide +kernel
theorem dJ6_bitCount_0f7a4_3 : decode cJ6_bitCount_0f7a4 3 = .ok (.iushr, 1) := by decide +kernel
theorem dJ6_bitCount_0f7a4_4 : decode cJ6_bitCount_0f7a4 4 = .ok (.ldc_w 265, 3) := by decide +kernel
theorem dJ6_bitCount_0f7a4_7 : decode cJ6_bitCount_0f7a4 7 = .ok (.iand, 1) := by decide +kernel
theorem dJ6_bitCount_0f7a4_8 : decode cJ6_bitCount_0f7a4 8 = .ok (.isub, 1) := by decide +kernel
theorem dJ6_bitCount_0f7a4_9 : decode cJ6_bitCount_0f7a4 9 = .ok (.istore_n 0, 1) := by decide +kernel
theorem dJ6_bitCount_0f7a4_10 : decode cJ6_bitCount_0f7a4 10 = .ok (.iload_n 0, 1) := by decide +kernel
theorem dJ6_bitCount_0f7a4_11 : decode cJ6_bitCount_0f7a4 11 = .ok (.ldc_w 266, 3) := by decide +kernel
theorem dJ6_bitCount_0f7a4_14 : decode cJ6_bitCount_0f7a4 14 = .ok (.iand, 1) := by decide +kernel
theorem dJ6_bitCount_0f7a4_15 : decode cJ6_bitCount_0f7a4 15 = .ok (.iload_n 0, 1) := by decide +kernel
theorem dJ6_bitCount_0f7a4_16 : decode cJ6_bitCount_0f7a4 16 = .ok (.iconst 2, 1) := by decide +kernel
theorem dJ6_bitCount_0f7a4_17 : decode cJ6_bitCount_0f7a4 17 = .ok (.iushr, 1) := by decide +kernel
theorem dJ6_bitCount_0f7a4_18 : decode cJ6_bitCount_0f7a4 18 = .ok (.ldc_w 266, 3) := by decide +kernel
theorem dJ6_bitCount_0f7a4_21 : decode cJ6_bitCount_0f7a4 21 = .ok (.iand, 1) := by decide +kernel
theorem dJ6_bitCount_0f7a4_22 : decode cJ6_bitCount_0f7a4 22 = .ok (.iadd, 1) := by decide +kernel
theorem dJ6_bitCount_0f7a4_23 : decode cJ6_bitCount_0f7a4 23 = .ok (.istore_n 0, 1) := by decide +kernel
theorem dJ6_bitCount_0f7a4_24 : decode cJ6_bitCount_0f7a4 24 = .ok (.iload_n 0, 1) := by decide +kernel
theorem dJ6_bitCount_0f7a4_25 : decode cJ6_bitCount_0f7a4 25 = .ok (.iload_n 0, 1) := by decide +kernel
theorem dJ6_bitCount_0f7a4_26 : decode cJ6_bitCount_0f7a4 26 = .ok (.iconst 4, 1) := by decide +kernel
theorem dJ6_bitCount_0f7a4_27 : decode cJ6_bitCount_0f7a4 27 = .ok (.iushr, 1) := by decide +kernel
theorem dJ6_bitCount_0f7a4_28 : decode cJ6_bitCount_0f7a4 28 = .ok (.iadd, 1) := by decide +kernel
theorem dJ6_bitCount_0f7a4_29 : decode cJ6_bitCount_0f7a4 29 = .ok (.ldc_w 267, 3) := by decide +kernel
theorem dJ6_bitCount_0f7a4_32 : decode cJ6_bitCount_0f7a4 32 = .ok (.iand, 1) := by decide +kernel
theorem dJ6_bitCount_0f7a4_33 : decode cJ6_bitCount_0f7a4 33 = .ok (.istore_n 0, 1) := by decide +kernel
theorem dJ6_bitCount_0f7a4_34 : decode cJ6_bitCount_0f7a4 34 = .ok (.iload_n 0, 1) := by decide +kernel
theorem dJ6_bitCount_0f7a4_35 : decode cJ6_bitCount_0f7a4 35 = .ok (.iload_n 0, 1) := by decide +kernel
theorem dJ6_bitCount_0f7a4_36 : decode cJ6_bitCount_0f7a4 36 = .ok (.bipush 8, 2) := by decide +kernel
theorem dJ6_bitCount_0f7a4_38 : decode cJ6_bitCount_0f7a4 38 = .ok (.iushr, 1) := by decide +kernel
theorem dJ6_bitCount_0f7a4_39 : decode cJ6_bitCount_0f7a4 39 = .ok (.iadd, 1) := by decide +kernel
theorem dJ6_bitCount_0f7a4_40 : decode cJ6_bitCount_0f7a4 40 = .ok (.istore_n 0, 1) := by decide +kernel
theorem dJ6_bitCount_0f7a4_41 : decode cJ6_bitCount_0f7a4 41 = .ok (.iload_n 0, 1) := by decide +kernel
theorem dJ6_bitCount_0f7a4_42 : decode cJ6_bitCount_0f7a4 42 = .ok (.iload_n 0, 1) := by decide +kernel
theorem dJ6_bitCount_0f7a4_43 : decode cJ6_bitCount_0f7a4 43 = .ok (.bipush 16, 2) := by decide +kernel
theorem dJ6_bitCount_0f7a4_45 : decode cJ6_bitCount_0f7a4 45 = .ok (.iushr, 1) := by decide +kernel
theorem dJ6_bitCount_0f7a4_46 : decode cJ6_bitCount_0f7a4 46 = .ok (.iadd, 1) := by decide +kernel
theorem dJ6_bitCount_0f7a4_47 : decode cJ6_bitCount_0f7a4 47 = .ok (.istore_n 0, 1) := by decide +kernel
theorem dJ6_bitCount_0f7a4_48 : decode cJ6_bitCount_0f7a4 48 = .ok (.iload_n 0, 1) := by decide +kernel
theorem dJ6_bitCount_0f7a4_49 : decode cJ6_bitCount_0f7a4 49 = .ok (.bipush 63, 2) := by decide +kernel
theorem dJ6_bitCount_0f7a4_51 : decode cJ6_bitCount_0f7a4 51 = .ok (.iand, 1) := by decide +kernel
theorem dJ6_bitCount_0f7a4_52 : decode cJ6_bitCount_0f7a4 52 = .ok (.ireturn, 1) := by decide +kernel
theorem dJ13_signum_95d88_0 : decode cJ13_signum_95d88 0 = .ok (.lload_n 0, 1) := by decide +kernel
theorem dJ13_signum_95d88_1 : decode cJ13_signum_95d88 1 = .ok (.bipush 63, 2) := by decide +kernel
theorem dJ13_signum_95d88_3 : decode cJ13_signum_95d88 3 = .ok (.lshr, 1) := by decide +kernel
theorem dJ13_signum_95d88_4 : decode cJ13_signum_95d88 4 = .ok (.lload_n 0, 1) := by decide +kernel
theorem dJ13_signum_95d88_5 : decode cJ13_signum_95d88 5 = .ok (.lneg, 1) := by decide +kernel
theorem dJ13_signum_95d88_6 : decode cJ13_signum_95d88 6 = .ok (.bipush 63, 2) := by decide +kernel
theorem dJ13_signum_95d88_8 : decode cJ13_signum_95d88 8 = .ok (.lushr, 1) := by decide +kernel
theorem dJ13_signum_95d88_9 : decode cJ13_signum_95d88 9 = .ok (.lor, 1) := by decide +kernel
theorem dJ13_signum_95d88_10 : decode cJ13_signum_95d88 10 = .ok (.l2i, 1) := by decide +kernel
theorem dJ13_signum_95d88_11 : decode cJ13_signum_95d88 11 = .ok (.ireturn, 1) := by decide +kernel
theorem dJ9_abs_067f4_0 : decode cJ9_abs_067f4 0 = .ok (.lload_n 0, 1) := by decide +kernel
theorem dJ9_abs_067f4_1 : decode cJ9_abs_067f4 1 = .ok (.lconst 0, 1) := by decide +kernel
theorem dJ9_abs_067f4_2 : decode cJ9_abs_067f4 2 = .ok (.lcmp, 1) := by decide +kernel
theorem dJ9_abs_067f4_3 : decode cJ9_abs_067f4 3 = .ok (.ifCond .ge 8, 3) := by decide +kernel
theorem dJ9_abs_067f4_6 : decode cJ9_abs_067f4 6 = .ok (.lload_n 0, 1) := by decide +kernel
theorem dJ9_abs_067f4_7 : decode cJ9_abs_067f4 7 = .ok (.lneg, 1) := by decide +kernel
theorem dJ9_abs_067f4_8 : decode cJ9_abs_067f4 8 = .ok (.goto 4, 3) := by decide +kernel
theorem dJ9_abs_067f4_11 : decode cJ9_abs_067f4 11 = .ok (.lload_n 0, 1) := by decide +kernel
theorem dJ9_abs_067f4_12 : decode cJ9_abs_067f4 12 = .ok (.lreturn, 1) := by decide +kernel
theorem dJ9_max_7cf53_0 : decode cJ9_max_7cf53 0 = .ok (.iload_n 0, 1) := by decide +kernel
theorem dJ9_max_7cf53_1 : decode cJ9_max_7cf53 1 = .ok (.iload_n 1, 1) := by decide +kernel
theorem dJ9_max_7cf53_2 : decode cJ9_max_7cf53 2 = .ok (.if_icmp .lt 7, 3) := by decide +kernel
theorem dJ9_max_7cf53_5 : decode cJ9_max_7cf53 5 = .ok (.iload_n 0, 1) := by decide +kernel
theorem dJ9_max_7cf53_6 : decode cJ9_max_7cf53 6 = .ok (.goto 4, 3) := by decide +kernel
theorem dJ9_max_7cf53_9 : decode cJ9_max_7cf53 9 = .ok (.iload_n 1, 1) := by decide +kernel
theorem dJ9_max_7cf53_10 : decode cJ9_max_7cf53 10 = .ok (.ireturn, 1) := by decide +kernel
theorem dJ9_min_7cf53_0 : decode cJ9_min_7cf53 0 = .ok (.iload_n 0, 1) := by decide +kernel
theorem dJ9_min_7cf53_1 : decode cJ9_min_7cf53 1 = .ok (.iload_n 1, 1) := by decide +kernel
theorem dJ9_min_7cf53_2 : decode cJ9_min_7cf53 2 = .ok (.if_icmp .gt 7, 3) := by decide +kernel
theorem dJ9_min_7cf53_5 : decode cJ9_min_7cf53 5 = .ok (.iload_n 0, 1) := by decide +kernel
theorem dJ9_min_7cf53_6 : decode cJ9_min_7cf53 6 = .ok (.goto 4, 3) := by decide +kernel
theorem dJ9_min_7cf53_9 : decode cJ9_min_7cf53 9 = .ok (.iload_n 1, 1) := by decide +kernel
theorem dJ9_min_7cf53_10 : decode cJ9_min_7cf53 10 = .ok (.ireturn, 1) := by decide +kernel
theorem dJ7_fill_d0a16_0 : decode cJ7_fill_d0a16 0 = .ok (.iconst 0, 1) := by decide +kernel
theorem dJ7_fill_d0a16_1 : decode cJ7_fill_d0a16 1 = .ok (.istore_n 3, 1) := by decide +kernel
theorem dJ7_fill_d0a16_2 : decode cJ7_fill_d0a16 2 = .ok (.aload_n 0, 1) := by decide +kernel
theorem dJ7_fill_d0a16_3 : decode cJ7_fill_d0a16 3 = .ok (.arraylength, 1) := by decide +kernel
theorem dJ7_fill_d0a16_4 : decode cJ7_fill_d0a16 4 = .ok (.istore 4, 2) := by decide +kernel
theorem dJ7_fill_d0a16_6 : decode cJ7_fill_d0a16 6 = .ok (.iload_n 3, 1) := by decide +kernel
theorem dJ7_fill_d0a16_7 : decode cJ7_fill_d0a16 7 = .ok (.iload 4, 2) := by decide +kernel
theorem dJ7_fill_d0a16_9 : decode cJ7_fill_d0a16 9 = .ok (.if_icmp .ge 13, 3) := by decide +kernel
theorem dJ7_fill_d0a16_12 : decode cJ7_fill_d0a16 12 = .ok (.aload_n 0, 1) := by decide +kernel
theorem dJ7_fill_d0a16_13 : decode cJ7_fill_d0a16 13 = .ok (.iload_n 3, 1) := by decide +kernel
theorem dJ7_fill_d0a16_14 : decode cJ7_fill_d0a16 14 = .ok (.lload_n 1, 1) := by decide +kernel
theorem dJ7_fill_d0a16_15 : decode cJ7_fill_d0a16 15 = .ok (.lastore, 1) := by decide +kernel
theorem dJ7_fill_d0a16_16 : decode cJ7_fill_d0a16 16 = .ok (.iinc 3 1, 3) := by decide +kernel
theorem dJ7_fill_d0a16_19 : decode cJ7_fill_d0a16 19 = .ok (.goto (-13), 3) := by decide +kernel
theorem dJ7_fill_d0a16_22 : decode cJ7_fill_d0a16 22 = .ok (.return_, 1) := by decide +kernel
theorem dJ7_fill_53178_0 : decode cJ7_fill_53178 0 = .ok (.iconst 0, 1) := by decide +kernel
theorem dJ7_fill_53178_1 : decode cJ7_fill_53178 1 = .ok (.istore_n 2, 1) := by decide +kernel
theorem dJ7_fill_53178_2 : decode cJ7_fill_53178 2 = .ok (.aload_n 0, 1) := by decide +kernel
theorem dJ7_fill_53178_3 : decode cJ7_fill_53178 3 = .ok (.arraylength, 1) := by decide +kernel
theorem dJ7_fill_53178_4 : decode cJ7_fill_53178 4 = .ok (.istore_n 3, 1) := by decide +kernel
theorem dJ7_fill_53178_5 : decode cJ7_fill_53178 5 = .ok (.iload_n 2, 1) := by decide +kernel
theorem dJ7_fill_53178_6 : decode cJ7_fill_53178 6 = .ok (.iload_n 3, 1) := by decide +kernel
theorem dJ7_fill_53178_7 : decode cJ7_fill_53178 7 = .ok (.if_icmp .ge 13, 3) := by decide +kernel
theorem dJ7_fill_53178_10 : decode cJ7_fill_53178 10 = .ok (.aload_n 0, 1) := by decide +kernel
theorem dJ7_fill_53178_11 : decode cJ7_fill_53178 11 = .ok (.iload_n 2, 1) := by decide +kernel
theorem dJ7_fill_53178_12 : decode cJ7_fill_53178 12 = .ok (.iload_n 1, 1) := by decide +kernel
theorem dJ7_fill_53178_13 : decode cJ7_fill_53178 13 = .ok (.iastore, 1) := by decide +kernel
theorem dJ7_fill_53178_14 : decode cJ7_fill_53178 14 = .ok (.iinc 2 1, 3) := by decide +kernel
theorem dJ7_fill_53178_17 : decode cJ7_fill_53178 17 = .ok (.goto (-12), 3) := by decide +kernel
theorem dJ7_fill_53178_20 : decode cJ7_fill_53178 20 = .ok (.return_, 1) := by decide +kernel
theorem dL_law_0 : decode cL_law 0 = .ok (.new 7, 3) := by decide +kernel
theorem dL_law_3 : decode cL_law 3 = .ok (.dup, 1) := by decide +kernel
theorem dL_law_4 : decode cL_law 4 = .ok (.invokespecial 9, 3) := by decide +kernel
theorem dL_law_7 : decode cL_law 7 = .ok (.astore_n 1, 1) := by decide +kernel
theorem dL_law_8 : decode cL_law 8 = .ok (.new 10, 3) := by decide +kernel
theorem dL_law_11 : decode cL_law 11 = .ok (.dup, 1) := by decide +kernel
theorem dL_law_12 : decode cL_law 12 = .ok (.invokespecial 12, 3) := by decide +kernel
theorem dL_law_15 : decode cL_law 15 = .ok (.astore_n 2, 1) := by decide +kernel
theorem dL_law_16 : decode cL_law 16 = .ok (.iconst 0, 1) := by decide +kernel
theorem dL_law_17 : decode cL_law 17 = .ok (.istore_n 3, 1) := by decide +kernel
theorem dL_law_18 : decode cL_law 18 = .ok (.iload_n 3, 1) := by decide +kernel
theorem dL_law_19 : decode cL_law 19 = .ok (.aload_n 0, 1) := by decide +kernel
theorem dL_law_20 : decode cL_law 20 = .ok (.arraylength, 1) := by decide +kernel
theorem dL_law_21 : decode cL_law 21 = .ok (.iconst 5, 1) := by decide +kernel
theorem dL_law_22 : decode cL_law 22 = .ok (.isub, 1) := by decide +kernel
theorem dL_law_23 : decode cL_law 23 = .ok (.if_icmp .gt 1021, 3) := by decide +kernel
theorem dL_law_26 : decode cL_law 26 = .ok (.aload_n 0, 1) := by decide +kernel
theorem dL_law_27 : decode cL_law 27 = .ok (.iload_n 3, 1) := by decide +kernel
theorem dL_law_28 : decode cL_law 28 = .ok (.iaload, 1) := by decide +kernel
theorem dL_law_29 : decode cL_law 29 = .ok (.bipush 31, 2) := by decide +kernel
theorem dL_law_31 : decode cL_law 31 = .ok (.iand, 1) := by decide +kernel
theorem dL_law_32 : decode cL_law 32 = .ok (.tableswitch 1006 0 21 #[104, 137, 206, 249, 292, 325, 358, 391, 434, 493, 536, 579, 602, 635, 658, 712, 756, 799, 842, 865, 928, 992], 104) := by decide +kernel
theorem dL_law_136 : decode cL_law 136 = .ok (.aload_n 1, 1) := by decide +kernel
theorem dL_law_137 : decode cL_law 137 = .ok (.aload_n 0, 1) := by decide +kernel
theorem dL_law_138 : decode cL_law 138 = .ok (.iload_n 3, 1) := by decide +kernel
theorem dL_law_139 : decode cL_law 139 = .ok (.iconst 1, 1) := by decide +kernel
theorem dL_law_140 : decode cL_law 140 = .ok (.iadd, 1) := by decide +kernel
theorem dL_law_141 : decode cL_law 141 = .ok (.iaload, 1) := by decide +kernel
theorem dL_law_142 : decode cL_law 142 = .ok (.aload_n 0, 1) := by decide +kernel
theorem dL_law_143 : decode cL_law 143 = .ok (.iload_n 3, 1) := by decide +kernel
theorem dL_law_144 : decode cL_law 144 = .ok (.iconst 2, 1) := by decide +kernel
theorem dL_law_145 : decode cL_law 145 = .ok (.iadd, 1) := by decide +kernel
theorem dL_law_146 : decode cL_law 146 = .ok (.iaload, 1) := by decide +kernel
theorem dL_law_147 : decode cL_law 147 = .ok (.invokevirtual 13, 3) := by decide +kernel
theorem dL_law_150 : decode cL_law 150 = .ok (.aload_n 2, 1) := by decide +kernel
theorem dL_law_151 : decode cL_law 151 = .ok (.aload_n 0, 1) := by decide +kernel
theorem dL_law_152 : decode cL_law 152 = .ok (.iload_n 3, 1) := by decide +kernel
theorem dL_law_153 : decode cL_law 153 = .ok (.iconst 1, 1) := by decide +kernel
theorem dL_law_154 : decode cL_law 154 = .ok (.iadd, 1) := by decide +kernel
theorem dL_law_155 : decode cL_law 155 = .ok (.iaload, 1) := by decide +kernel
theorem dL_law_156 : decode cL_law 156 = .ok (.aload_n 0, 1) := by decide +kernel
theorem dL_law_157 : decode cL_law 157 = .ok (.iload_n 3, 1) := by decide +kernel
theorem dL_law_158 : decode cL_law 158 = .ok (.iconst 2, 1) := by decide +kernel
theorem dL_law_159 : decode cL_law 159 = .ok (.iadd, 1) := by decide +kernel
theorem dL_law_160 : decode cL_law 160 = .ok (.iaload, 1) := by decide +kernel
theorem dL_law_161 : decode cL_law 161 = .ok (.invokevirtual 17, 3) := by decide +kernel
theorem dL_law_164 : decode cL_law 164 = .ok (.if_icmp .eq 874, 3) := by decide +kernel
theorem dL_law_167 : decode cL_law 167 = .ok (.iconst 0, 1) := by decide +kernel
theorem dL_law_168 : decode cL_law 168 = .ok (.ireturn, 1) := by decide +kernel
theorem dL_law_169 : decode cL_law 169 = .ok (.aload_n 1, 1) := by decide +kernel
theorem dL_law_170 : decode cL_law 170 = .ok (.aload_n 0, 1) := by decide +kernel
theorem dL_law_171 : decode cL_law 171 = .ok (.iload_n 3, 1) := by decide +kernel
theorem dL_law_172 : decode cL_law 172 = .ok (.iconst 1, 1) := by decide +kernel
theorem dL_law_173 : decode cL_law 173 = .ok (.iadd, 1) := by decide +kernel
theorem dL_law_174 : decode cL_law 174 = .ok (.iaload, 1) := by decide +kernel
theorem dL_law_175 : decode cL_law 175 = .ok (.aload_n 0, 1) := by decide +kernel
theorem dL_law_176 : decode cL_law 176 = .ok (.iload_n 3, 1) := by decide +kernel
theorem dL_law_177 : decode cL_law 177 = .ok (.iconst 2, 1) := by decide +kernel
theorem dL_law_178 : decode cL_law 178 = .ok (.iadd, 1) := by decide +kernel
theorem dL_law_179 : decode cL_law 179 = .ok (.iaload, 1) := by decide +kernel
theorem dL_law_180 : decode cL_law 180 = .ok (.aload_n 0, 1) := by decide +kernel
theorem dL_law_181 : decode cL_law 181 = .ok (.iload_n 3, 1) := by decide +kernel
theorem dL_law_182 : decode cL_law 182 = .ok (.iconst 3, 1) := by decide +kernel
theorem dL_law_183 : decode cL_law 183 = .ok (.iadd, 1) := by decide +kernel
theorem dL_law_184 : decode cL_law 184 = .ok (.iaload, 1) := by decide +kernel
theorem dL_law_185 : decode cL_law 185 = .ok (.aload_n 0, 1) := by decide +kernel
theorem dL_law_186 : decode cL_law 186 = .ok (.iload_n 3, 1) := by decide +kernel
theorem dL_law_187 : decode cL_law 187 = .ok (.iconst 4, 1) := by decide +kernel
theorem dL_law_188 : decode cL_law 188 = .ok (.iadd, 1) := by decide +kernel
theorem dL_law_189 : decode cL_law 189 = .ok (.iaload, 1) := by decide +kernel
theorem dL_law_190 : decode cL_law 190 = .ok (.ifCond .eq 7, 3) := by decide +kernel
theorem dL_law_193 : decode cL_law 193 = .ok (.iconst 1, 1) := by decide +kernel
theorem dL_law_194 : decode cL_law 194 = .ok (.goto 4, 3) := by decide +kernel
theorem dL_law_197 : decode cL_law 197 = .ok (.iconst 0, 1) := by decide +kernel
theorem dL_law_198 : decode cL_law 198 = .ok (.invokevirtual 18, 3) := by decide +kernel
theorem dL_law_201 : decode cL_law 201 = .ok (.aload_n 2, 1) := by decide +kernel
theorem dL_law_202 : decode cL_law 202 = .ok (.aload_n 0, 1) := by decide +kernel
theorem dL_law_203 : decode cL_law 203 = .ok (.iload_n 3, 1) := by decide +kernel
theorem dL_law_204 : decode cL_law 204 = .ok (.iconst 1, 1) := by decide +kernel
theorem dL_law_205 : decode cL_law 205 = .ok (.iadd, 1) := by decide +kernel
theorem dL_law_206 : decode cL_law 206 = .ok (.iaload, 1) := by decide +kernel
theorem dL_law_207 : decode cL_law 207 = .ok (.aload_n 0, 1) := by decide +kernel
theorem dL_law_208 : decode cL_law 208 = .ok (.iload_n 3, 1) := by decide +kernel
theorem dL_law_209 : decode cL_law 209 = .ok (.iconst 2, 1) := by decide +kernel
theorem dL_law_210 : decode cL_law 210 = .ok (.iadd, 1) := by decide +kernel
theorem dL_law_211 : decode cL_law 211 = .ok (.iaload, 1) := by decide +kernel
theorem dL_law_212 : decode cL_law 212 = .ok (.aload_n 0, 1) := by decide +kernel
theorem dL_law_213 : decode cL_law 213 = .ok (.iload_n 3, 1) := by decide +kernel
theorem dL_law_214 : decode cL_law 214 = .ok (.iconst 3, 1) := by decide +kernel
theorem dL_law_215 : decode cL_law 215 = .ok (.iadd, 1) := by decide +kernel
theorem dL_law_216 : decode cL_law 216 = .ok (.iaload, 1) := by decide +kernel
theorem dL_law_217 : decode cL_law 217 = .ok (.aload_n 0, 1) := by decide +kernel
theorem dL_law_218 : decode cL_law 218 = .ok (.iload_n 3, 1) := by decide +kernel
theorem dL_law_219 : decode cL_law 219 = .ok (.iconst 4, 1) := by decide +kernel
theorem dL_law_220 : decode cL_law 220 = .ok (.iadd, 1) := by decide +kernel
theorem dL_law_221 : decode cL_law 221 = .ok (.iaload, 1) := by decide +kernel
theorem dL_law_222 : decode cL_law 222 = .ok (.ifCond .eq 7, 3) := by decide +kernel
theorem dL_law_225 : decode cL_law 225 = .ok (.iconst 1, 1) := by decide +kernel
theorem dL_law_226 : decode cL_law 226 = .ok (.goto 4, 3) := by decide +kernel
theorem dL_law_229 : decode cL_law 229 = .ok (.iconst 0, 1) := by decide +kernel
theorem dL_law_230 : decode cL_law 230 = .ok (.invokevirtual 22, 3) := by decide +kernel
theorem dL_law_233 : decode cL_law 233 = .ok (.if_icmp .eq 805, 3) := by decide +kernel
theorem dL_law_236 : decode cL_law 236 = .ok (.iconst 0, 1) := by decide +kernel
theorem dL_law_237 : decode cL_law 237 = .ok (.ireturn, 1) := by decide +kernel
theorem dL_law_238 : decode cL_law 238 = .ok (.aload_n 1, 1) := by decide +kernel
theorem dL_law_239 : decode cL_law 239 = .ok (.aload_n 0, 1) := by decide +kernel
theorem dL_law_240 : decode cL_law 240 = .ok (.iload_n 3, 1) := by decide +kernel
theorem dL_law_241 : decode cL_law 241 = .ok (.iconst 1, 1) := by decide +kernel
theorem dL_law_242 : decode cL_law 242 = .ok (.iadd, 1) := by decide +kernel
theorem dL_law_243 : decode cL_law 243 = .ok (.iaload, 1) := by decide +kernel
theorem dL_law_244 : decode cL_law 244 = .ok (.aload_n 0, 1) := by decide +kernel
theorem dL_law_245 : decode cL_law 245 = .ok (.iload_n 3, 1) := by decide +kernel
theorem dL_law_246 : decode cL_law 246 = .ok (.iconst 2, 1) := by decide +kernel
theorem dL_law_247 : decode cL_law 247 = .ok (.iadd, 1) := by decide +kernel
theorem dL_law_248 : decode cL_law 248 = .ok (.iaload, 1) := by decide +kernel
theorem dL_law_249 : decode cL_law 249 = .ok (.aload_n 0, 1) := by decide +kernel
theorem dL_law_250 : decode cL_law 250 = .ok (.iload_n 3, 1) := by decide +kernel
theorem dL_law_251 : decode cL_law 251 = .ok (.iconst 3, 1) := by decide +kernel
theorem dL_law_252 : decode cL_law 252 = .ok (.iadd, 1) := by decide +kernel
theorem dL_law_253 : decode cL_law 253 = .ok (.iaload, 1) := by decide +kernel
theorem dL_law_254 : decode cL_law 254 = .ok (.invokevirtual 23, 3) := by decide +kernel
theorem dL_law_257 : decode cL_law 257 = .ok (.aload_n 2, 1) := by decide +kernel
theorem dL_law_258 : decode cL_law 258 = .ok (.aload_n 0, 1) := by decide +kernel
theorem dL_law_259 : decode cL_law 259 = .ok (.iload_n 3, 1) := by decide +kernel
theorem dL_law_260 : decode cL_law 260 = .ok (.iconst 1, 1) := by decide +kernel
theorem dL_law_261 : decode cL_law 261 = .ok (.iadd, 1) := by decide +kernel
theorem dL_law_262 : decode cL_law 262 = .ok (.iaload, 1) := by decide +kernel
theorem dL_law_263 : decode cL_law 263 = .ok (.aload_n 0, 1) := by decide +kernel
theorem dL_law_264 : decode cL_law 264 = .ok (.iload_n 3, 1) := by decide +kernel
theorem dL_law_265 : decode cL_law 265 = .ok (.iconst 2, 1) := by decide +kernel
theorem dL_law_266 : decode cL_law 266 = .ok (.iadd, 1) := by decide +kernel
theorem dL_law_267 : decode cL_law 267 = .ok (.iaload, 1) := by decide +kernel
theorem dL_law_268 : decode cL_law 268 = .ok (.aload_n 0, 1) := by decide +kernel
theorem dL_law_269 : decode cL_law 269 = .ok (.iload_n 3, 1) := by decide +kernel
theorem dL_law_270 : decode cL_law 270 = .ok (.iconst 3, 1) := by decide +kernel
theorem dL_law_271 : decode cL_law 271 = .ok (.iadd, 1) := by decide +kernel
theorem dL_law_272 : decode cL_law 272 = .ok (.iaload, 1) := by decide +kernel
theorem dL_law_273 : decode cL_law 273 = .ok (.invokevirtual 27, 3) := by decide +kernel
theorem dL_law_276 : decode cL_law 276 = .ok (.if_icmp .eq 762, 3) := by decide +kernel
theorem dL_law_279 : decode cL_law 279 = .ok (.iconst 0, 1) := by decide +kernel
theorem dL_law_280 : decode cL_law 280 = .ok (.ireturn, 1) := by decide +kernel
theorem dL_law_281 : decode cL_law 281 = .ok (.aload_n 1, 1) := by decide +kernel
theorem dL_law_282 : decode cL_law 282 = .ok (.aload_n 0, 1) := by decide +kernel
theorem dL_law_283 : decode cL_law 283 = .ok (.iload_n 3, 1) := by decide +kernel
theorem dL_law_284 : decode cL_law 284 = .ok (.iconst 1, 1) := by decide +kernel
theorem dL_law_285 : decode cL_law 285 = .ok (.iadd, 1) := by decide +kernel
theorem dL_law_286 : decode cL_law 286 = .ok (.iaload, 1) := by decide +kernel
theorem dL_law_287 : decode cL_law 287 = .ok (.aload_n 0, 1) := by decide +kernel
theorem dL_law_288 : decode cL_law 288 = .ok (.iload_n 3, 1) := by decide +kernel
theorem dL_law_289 : decode cL_law 289 = .ok (.iconst 2, 1) := by decide +kernel
theorem dL_law_290 : decode cL_law 290 = .ok (.iadd, 1) := by decide +kernel
theorem dL_law_291 : decode cL_law 291 = .ok (.iaload, 1) := by decide +kernel
theorem dL_law_292 : decode cL_law 292 = .ok (.aload_n 0, 1) := by decide +kernel
theorem dL_law_293 : decode cL_law 293 = .ok (.iload_n 3, 1) := by decide +kernel
theorem dL_law_294 : decode cL_law 294 = .ok (.iconst 3, 1) := by decide +kernel
theorem dL_law_295 : decode cL_law 295 = .ok (.iadd, 1) := by decide +kernel
theorem dL_law_296 : decode cL_law 296 = .ok (.iaload, 1) := by decide +kernel
theorem dL_law_297 : decode cL_law 297 = .ok (.invokevirtual 28, 3) := by decide +kernel
theorem dL_law_300 : decode cL_law 300 = .ok (.aload_n 2, 1) := by decide +kernel
theorem dL_law_301 : decode cL_law 301 = .ok (.aload_n 0, 1) := by decide +kernel
theorem dL_law_302 : decode cL_law 302 = .ok (.iload_n 3, 1) := by decide +kernel
theorem dL_law_303 : decode cL_law 303 = .ok (.iconst 1, 1) := by decide +kernel
theorem dL_law_304 : decode cL_law 304 = .ok (.iadd, 1) := by decide +kernel
theorem dL_law_305 : decode cL_law 305 = .ok (.iaload, 1) := by decide +kernel
theorem dL_law_306 : decode cL_law 306 = .ok (.aload_n 0, 1) := by decide +kernel
theorem dL_law_307 : decode cL_law 307 = .ok (.iload_n 3, 1) := by decide +kernel
theorem dL_law_308 : decode cL_law 308 = .ok (.iconst 2, 1) := by decide +kernel
theorem dL_law_309 : decode cL_law 309 = .ok (.iadd, 1) := by decide +kernel
theorem dL_law_310 : decode cL_law 310 = .ok (.iaload, 1) := by decide +kernel
theorem dL_law_311 : decode cL_law 311 = .ok (.aload_n 0, 1) := by decide +kernel
theorem dL_law_312 : decode cL_law 312 = .ok (.iload_n 3, 1) := by decide +kernel
theorem dL_law_313 : decode cL_law 313 = .ok (.iconst 3, 1) := by decide +kernel
theorem dL_law_314 : decode cL_law 314 = .ok (.iadd, 1) := by decide +kernel
theorem dL_law_315 : decode cL_law 315 = .ok (.iaload, 1) := by decide +kernel
theorem dL_law_316 : decode cL_law 316 = .ok (.invokevirtual 31, 3) := by decide +kernel
theorem dL_law_319 : decode cL_law 319 = .ok (.if_icmp .eq 719, 3) := by decide +kernel
theorem dL_law_322 : decode cL_law 322 = .ok (.iconst 0, 1) := by decide +kernel
theorem dL_law_323 : decode cL_law 323 = .ok (.ireturn, 1) := by decide +kernel
theorem dL_law_324 : decode cL_law 324 = .ok (.aload_n 1, 1) := by decide +kernel
theorem dL_law_325 : decode cL_law 325 = .ok (.aload_n 0, 1) := by decide +kernel
theorem dL_law_326 : decode cL_law 326 = .ok (.iload_n 3, 1) := by decide +kernel
theorem dL_law_327 : decode cL_law 327 = .ok (.iconst 1, 1) := by decide +kernel
theorem dL_law_328 : decode cL_law 328 = .ok (.iadd, 1) := by decide +kernel
theorem dL_law_329 : decode cL_law 329 = .ok (.iaload, 1) := by decide +kernel
theorem dL_law_330 : decode cL_law 330 = .ok (.aload_n 0, 1) := by decide +kernel
theorem dL_law_331 : decode cL_law 331 = .ok (.iload_n 3, 1) := by decide +kernel
theorem dL_law_332 : decode cL_law 332 = .ok (.iconst 2, 1) := by decide +kernel
theorem dL_law_333 : decode cL_law 333 = .ok (.iadd, 1) := by decide +kernel
theorem dL_law_334 : decode cL_law 334 = .ok (.iaload, 1) := by decide +kernel
theorem dL_law_335 : decode cL_law 335 = .ok (.invokevirtual 32, 3) := by decide +kernel
theorem dL_law_338 : decode cL_law 338 = .ok (.aload_n 2, 1) := by decide +kernel
theorem dL_law_339 : decode cL_law 339 = .ok (.aload_n 0, 1) := by decide +kernel
theorem dL_law_340 : decode cL_law 340 = .ok (.iload_n 3, 1) := by decide +kernel
theorem dL_law_341 : decode cL_law 341 = .ok (.iconst 1, 1) := by decide +kernel
theorem dL_law_342 : decode cL_law 342 = .ok (.iadd, 1) := by decide +kernel
theorem dL_law_343 : decode cL_law 343 = .ok (.iaload, 1) := by decide +kernel
theorem dL_law_344 : decode cL_law 344 = .ok (.aload_n 0, 1) := by decide +kernel
theorem dL_law_345 : decode cL_law 345 = .ok (.iload_n 3, 1) := by decide +kernel
theorem dL_law_346 : decode cL_law 346 = .ok (.iconst 2, 1) := by decide +kernel
theorem dL_law_347 : decode cL_law 347 = .ok (.iadd, 1) := by decide +kernel
theorem dL_law_348 : decode cL_law 348 = .ok (.iaload, 1) := by decide +kernel
theorem dL_law_349 : decode cL_law 349 = .ok (.invokevirtual 35, 3) := by decide +kernel
theorem dL_law_352 : decode cL_law 352 = .ok (.if_icmp .eq 686, 3) := by decide +kernel
theorem dL_law_355 : decode cL_law 355 = .ok (.iconst 0, 1) := by decide +kernel
theorem dL_law_356 : decode cL_law 356 = .ok (.ireturn, 1) := by decide +kernel
theorem dL_law_357 : decode cL_law 357 = .ok (.aload_n 1, 1) := by decide +kernel
theorem dL_law_358 : decode cL_law 358 = .ok (.aload_n 0, 1) := by decide +kernel
theorem dL_law_359 : decode cL_law 359 = .ok (.iload_n 3, 1) := by decide +kernel
theorem dL_law_360 : decode cL_law 360 = .ok (.iconst 1, 1) := by decide +kernel
theorem dL_law_361 : decode cL_law 361 = .ok (.iadd, 1) := by decide +kernel
theorem dL_law_362 : decode cL_law 362 = .ok (.iaload, 1) := by decide +kernel
theorem dL_law_363 : decode cL_law 363 = .ok (.aload_n 0, 1) := by decide +kernel
theorem dL_law_364 : decode cL_law 364 = .ok (.iload_n 3, 1) := by decide +kernel
theorem dL_law_365 : decode cL_law 365 = .ok (.iconst 2, 1) := by decide +kernel
theorem dL_law_366 : decode cL_law 366 = .ok (.iadd, 1) := by decide +kernel
theorem dL_law_367 : decode cL_law 367 = .ok (.iaload, 1) := by decide +kernel
theorem dL_law_368 : decode cL_law 368 = .ok (.invokevirtual 36, 3) := by decide +kernel
theorem dL_law_371 : decode cL_law 371 = .ok (.aload_n 2, 1) := by decide +kernel
theorem dL_law_372 : decode cL_law 372 = .ok (.aload_n 0, 1) := by decide +kernel
theorem dL_law_373 : decode cL_law 373 = .ok (.iload_n 3, 1) := by decide +kernel
theorem dL_law_374 : decode cL_law 374 = .ok (.iconst 1, 1) := by decide +kernel
theorem dL_law_375 : decode cL_law 375 = .ok (.iadd, 1) := by decide +kernel
theorem dL_law_376 : decode cL_law 376 = .ok (.iaload, 1) := by decide +kernel
theorem dL_law_377 : decode cL_law 377 = .ok (.aload_n 0, 1) := by decide +kernel
theorem dL_law_378 : decode cL_law 378 = .ok (.iload_n 3, 1) := by decide +kernel
theorem dL_law_379 : decode cL_law 379 = .ok (.iconst 2, 1) := by decide +kernel
theorem dL_law_380 : decode cL_law 380 = .ok (.iadd, 1) := by decide +kernel
theorem dL_law_381 : decode cL_law 381 = .ok (.iaload, 1) := by decide +kernel
theorem dL_law_382 : decode cL_law 382 = .ok (.invokevirtual 39, 3) := by decide +kernel
theorem dL_law_385 : decode cL_law 385 = .ok (.if_icmp .eq 653, 3) := by decide +kernel
theorem dL_law_388 : decode cL_law 388 = .ok (.iconst 0, 1) := by decide +kernel
theorem dL_law_389 : decode cL_law 389 = .ok (.ireturn, 1) := by decide +kernel
theorem dL_law_390 : decode cL_law 390 = .ok (.aload_n 1, 1) := by decide +kernel
theorem dL_law_391 : decode cL_law 391 = .ok (.aload_n 0, 1) := by decide +kernel
theorem dL_law_392 : decode cL_law 392 = .ok (.iload_n 3, 1) := by decide +kernel
theorem dL_law_393 : decode cL_law 393 = .ok (.iconst 1, 1) := by decide +kernel
theorem dL_law_394 : decode cL_law 394 = .ok (.iadd, 1) := by decide +kernel
theorem dL_law_395 : decode cL_law 395 = .ok (.iaload, 1) := by decide +kernel
theorem dL_law_396 : decode cL_law 396 = .ok (.aload_n 0, 1) := by decide +kernel
theorem dL_law_397 : decode cL_law 397 = .ok (.iload_n 3, 1) := by decide +kernel
theorem dL_law_398 : decode cL_law 398 = .ok (.iconst 2, 1) := by decide +kernel
theorem dL_law_399 : decode cL_law 399 = .ok (.iadd, 1) := by decide +kernel
theorem dL_law_400 : decode cL_law 400 = .ok (.iaload, 1) := by decide +kernel
theorem dL_law_401 : decode cL_law 401 = .ok (.invokevirtual 40, 3) := by decide +kernel
theorem dL_law_404 : decode cL_law 404 = .ok (.aload_n 2, 1) := by decide +kernel
theorem dL_law_405 : decode cL_law 405 = .ok (.aload_n 0, 1) := by decide +kernel
theorem dL_law_406 : decode cL_law 406 = .ok (.iload_n 3, 1) := by decide +kernel
theorem dL_law_407 : decode cL_law 407 = .ok (.iconst 1, 1) := by decide +kernel
theorem dL_law_408 : decode cL_law 408 = .ok (.iadd, 1) := by decide +kernel
theorem dL_law_409 : decode cL_law 409 = .ok (.iaload, 1) := by decide +kernel
theorem dL_law_410 : decode cL_law 410 = .ok (.aload_n 0, 1) := by decide +kernel
theorem dL_law_411 : decode cL_law 411 = .ok (.iload_n 3, 1) := by decide +kernel
theorem dL_law_412 : decode cL_law 412 = .ok (.iconst 2, 1) := by decide +kernel
theorem dL_law_413 : decode cL_law 413 = .ok (.iadd, 1) := by decide +kernel
theorem dL_law_414 : decode cL_law 414 = .ok (.iaload, 1) := by decide +kernel
theorem dL_law_415 : decode cL_law 415 = .ok (.invokevirtual 43, 3) := by decide +kernel
theorem dL_law_418 : decode cL_law 418 = .ok (.if_icmp .eq 620, 3) := by decide +kernel
theorem dL_law_421 : decode cL_law 421 = .ok (.iconst 0, 1) := by decide +kernel
theorem dL_law_422 : decode cL_law 422 = .ok (.ireturn, 1) := by decide +kernel
theorem dL_law_423 : decode cL_law 423 = .ok (.aload_n 1, 1) := by decide +kernel
theorem dL_law_424 : decode cL_law 424 = .ok (.aload_n 0, 1) := by decide +kernel
theorem dL_law_425 : decode cL_law 425 = .ok (.iload_n 3, 1) := by decide +kernel
theorem dL_law_426 : decode cL_law 426 = .ok (.iconst 1, 1) := by decide +kernel
theorem dL_law_427 : decode cL_law 427 = .ok (.iadd, 1) := by decide +kernel
theorem dL_law_428 : decode cL_law 428 = .ok (.iaload, 1) := by decide +kernel
theorem dL_law_429 : decode cL_law 429 = .ok (.aload_n 0, 1) := by decide +kernel
theorem dL_law_430 : decode cL_law 430 = .ok (.iload_n 3, 1) := by decide +kernel
theorem dL_law_431 : decode cL_law 431 = .ok (.iconst 2, 1) := by decide +kernel
theorem dL_law_432 : decode cL_law 432 = .ok (.iadd, 1) := by decide +kernel
theorem dL_law_433 : decode cL_law 433 = .ok (.iaload, 1) := by decide +kernel
theorem dL_law_434 : decode cL_law 434 = .ok (.aload_n 0, 1) := by decide +kernel
theorem dL_law_435 : decode cL_law 435 = .ok (.iload_n 3, 1) := by decide +kernel
theorem dL_law_436 : decode cL_law 436 = .ok (.iconst 3, 1) := by decide +kernel
theorem dL_law_437 : decode cL_law 437 = .ok (.iadd, 1) := by decide +kernel
theorem dL_law_438 : decode cL_law 438 = .ok (.iaload, 1) := by decide +kernel
theorem dL_law_439 : decode cL_law 439 = .ok (.invokevirtual 44, 3) := by decide +kernel
theorem dL_law_442 : decode cL_law 442 = .ok (.aload_n 2, 1) := by decide +kernel
theorem dL_law_443 : decode cL_law 443 = .ok (.aload_n 0, 1) := by decide +kernel
theorem dL_law_444 : decode cL_law 444 = .ok (.iload_n 3, 1) := by decide +kernel
theorem dL_law_445 : decode cL_law 445 = .ok (.iconst 1, 1) := by decide +kernel
theorem dL_law_446 : decode cL_law 446 = .ok (.iadd, 1) := by decide +kernel
theorem dL_law_447 : decode cL_law 447 = .ok (.iaload, 1) := by decide +kernel
theorem dL_law_448 : decode cL_law 448 = .ok (.aload_n 0, 1) := by decide +kernel
theorem dL_law_449 : decode cL_law 449 = .ok (.iload_n 3, 1) := by decide +kernel
theorem dL_law_450 : decode cL_law 450 = .ok (.iconst 2, 1) := by decide +kernel
theorem dL_law_451 : decode cL_law 451 = .ok (.iadd, 1) := by decide +kernel
theorem dL_law_452 : decode cL_law 452 = .ok (.iaload, 1) := by decide +kernel
theorem dL_law_453 : decode cL_law 453 = .ok (.aload_n 0, 1) := by decide +kernel
theorem dL_law_454 : decode cL_law 454 = .ok (.iload_n 3, 1) := by decide +kernel
theorem dL_law_455 : decode cL_law 455 = .ok (.iconst 3, 1) := by decide +kernel
theorem dL_law_456 : decode cL_law 456 = .ok (.iadd, 1) := by decide +kernel
theorem dL_law_457 : decode cL_law 457 = .ok (.iaload, 1) := by decide +kernel
theorem dL_law_458 : decode cL_law 458 = .ok (.invokevirtual 47, 3) := by decide +kernel
theorem dL_law_461 : decode cL_law 461 = .ok (.if_icmp .eq 577, 3) := by decide +kernel
theorem dL_law_464 : decode cL_law 464 = .ok (.iconst 0, 1) := by decide +kernel
theorem dL_law_465 : decode cL_law 465 = .ok (.ireturn, 1) := by decide +kernel
theorem dL_law_466 : decode cL_law 466 = .ok (.aload_n 1, 1) := by decide +kernel
theorem dL_law_467 : decode cL_law 467 = .ok (.aload_n 0, 1) := by decide +kernel
theorem dL_law_468 : decode cL_law 468 = .ok (.iload_n 3, 1) := by decide +kernel
theorem dL_law_469 : decode cL_law 469 = .ok (.iconst 1, 1) := by decide +kernel
theorem dL_law_470 : decode cL_law 470 = .ok (.iadd, 1) := by decide +kernel
theorem dL_law_471 : decode cL_law 471 = .ok (.iaload, 1) := by decide +kernel
theorem dL_law_472 : decode cL_law 472 = .ok (.aload_n 0, 1) := by decide +kernel
theorem dL_law_473 : decode cL_law 473 = .ok (.iload_n 3, 1) := by decide +kernel
theorem dL_law_474 : decode cL_law 474 = .ok (.iconst 2, 1) := by decide +kernel
theorem dL_law_475 : decode cL_law 475 = .ok (.iadd, 1) := by decide +kernel
theorem dL_law_476 : decode cL_law 476 = .ok (.iaload, 1) := by decide +kernel
theorem dL_law_477 : decode cL_law 477 = .ok (.ifCond .eq 7, 3) := by decide +kernel
theorem dL_law_480 : decode cL_law 480 = .ok (.iconst 1, 1) := by decide +kernel
theorem dL_law_481 : decode cL_law 481 = .ok (.goto 4, 3) := by decide +kernel
theorem dL_law_484 : decode cL_law 484 = .ok (.iconst 0, 1) := by decide +kernel
theorem dL_law_485 : decode cL_law 485 = .ok (.aload_n 0, 1) := by decide +kernel
theorem dL_law_486 : decode cL_law 486 = .ok (.iload_n 3, 1) := by decide +kernel
theorem dL_law_487 : decode cL_law 487 = .ok (.iconst 3, 1) := by decide +kernel
theorem dL_law_488 : decode cL_law 488 = .ok (.iadd, 1) := by decide +kernel
theorem dL_law_489 : decode cL_law 489 = .ok (.iaload, 1) := by decide +kernel
theorem dL_law_490 : decode cL_law 490 = .ok (.invokevirtual 48, 3) := by decide +kernel
theorem dL_law_493 : decode cL_law 493 = .ok (.aload_n 2, 1) := by decide +kernel
theorem dL_law_494 : decode cL_law 494 = .ok (.aload_n 0, 1) := by decide +kernel
theorem dL_law_495 : decode cL_law 495 = .ok (.iload_n 3, 1) := by decide +kernel
theorem dL_law_496 : decode cL_law 496 = .ok (.iconst 1, 1) := by decide +kernel
theorem dL_law_497 : decode cL_law 497 = .ok (.iadd, 1) := by decide +kernel
theorem dL_law_498 : decode cL_law 498 = .ok (.iaload, 1) := by decide +kernel
theorem dL_law_499 : decode cL_law 499 = .ok (.aload_n 0, 1) := by decide +kernel
theorem dL_law_500 : decode cL_law 500 = .ok (.iload_n 3, 1) := by decide +kernel
theorem dL_law_501 : decode cL_law 501 = .ok (.iconst 2, 1) := by decide +kernel
theorem dL_law_502 : decode cL_law 502 = .ok (.iadd, 1) := by decide +kernel
theorem dL_law_503 : decode cL_law 503 = .ok (.iaload, 1) := by decide +kernel
theorem dL_law_504 : decode cL_law 504 = .ok (.ifCond .eq 7, 3) := by decide +kernel
theorem dL_law_507 : decode cL_law 507 = .ok (.iconst 1, 1) := by decide +kernel
theorem dL_law_508 : decode cL_law 508 = .ok (.goto 4, 3) := by decide +kernel
theorem dL_law_511 : decode cL_law 511 = .ok (.iconst 0, 1) := by decide +kernel
theorem dL_law_512 : decode cL_law 512 = .ok (.aload_n 0, 1) := by decide +kernel
theorem dL_law_513 : decode cL_law 513 = .ok (.iload_n 3, 1) := by decide +kernel
theorem dL_law_514 : decode cL_law 514 = .ok (.iconst 3, 1) := by decide +kernel
theorem dL_law_515 : decode cL_law 515 = .ok (.iadd, 1) := by decide +kernel
theorem dL_law_516 : decode cL_law 516 = .ok (.iaload, 1) := by decide +kernel
theorem dL_law_517 : decode cL_law 517 = .ok (.invokevirtual 52, 3) := by decide +kernel
theorem dL_law_520 : decode cL_law 520 = .ok (.if_icmp .eq 518, 3) := by decide +kernel
theorem dL_law_523 : decode cL_law 523 = .ok (.iconst 0, 1) := by decide +kernel
theorem dL_law_524 : decode cL_law 524 = .ok (.ireturn, 1) := by decide +kernel
theorem dL_law_525 : decode cL_law 525 = .ok (.aload_n 1, 1) := by decide +kernel
theorem dL_law_526 : decode cL_law 526 = .ok (.aload_n 0, 1) := by decide +kernel
theorem dL_law_527 : decode cL_law 527 = .ok (.iload_n 3, 1) := by decide +kernel
theorem dL_law_528 : decode cL_law 528 = .ok (.iconst 1, 1) := by decide +kernel
theorem dL_law_529 : decode cL_law 529 = .ok (.iadd, 1) := by decide +kernel
theorem dL_law_530 : decode cL_law 530 = .ok (.iaload, 1) := by decide +kernel
theorem dL_law_531 : decode cL_law 531 = .ok (.aload_n 0, 1) := by decide +kernel
theorem dL_law_532 : decode cL_law 532 = .ok (.iload_n 3, 1) := by decide +kernel
theorem dL_law_533 : decode cL_law 533 = .ok (.iconst 2, 1) := by decide +kernel
theorem dL_law_534 : decode cL_law 534 = .ok (.iadd, 1) := by decide +kernel
theorem dL_law_535 : decode cL_law 535 = .ok (.iaload, 1) := by decide +kernel
theorem dL_law_536 : decode cL_law 536 = .ok (.aload_n 0, 1) := by decide +kernel
theorem dL_law_537 : decode cL_law 537 = .ok (.iload_n 3, 1) := by decide +kernel
theorem dL_law_538 : decode cL_law 538 = .ok (.iconst 3, 1) := by decide +kernel
theorem dL_law_539 : decode cL_law 539 = .ok (.iadd, 1) := by decide +kernel
theorem dL_law_540 : decode cL_law 540 = .ok (.iaload, 1) := by decide +kernel
theorem dL_law_541 : decode cL_law 541 = .ok (.invokevirtual 53, 3) := by decide +kernel
theorem dL_law_544 : decode cL_law 544 = .ok (.aload_n 2, 1) := by decide +kernel
theorem dL_law_545 : decode cL_law 545 = .ok (.aload_n 0, 1) := by decide +kernel
theorem dL_law_546 : decode cL_law 546 = .ok (.iload_n 3, 1) := by decide +kernel
theorem dL_law_547 : decode cL_law 547 = .ok (.iconst 1, 1) := by decide +kernel
theorem dL_law_548 : decode cL_law 548 = .ok (.iadd, 1) := by decide +kernel
theorem dL_law_549 : decode cL_law 549 = .ok (.iaload, 1) := by decide +kernel
theorem dL_law_550 : decode cL_law 550 = .ok (.aload_n 0, 1) := by decide +kernel
theorem dL_law_551 : decode cL_law 551 = .ok (.iload_n 3, 1) := by decide +kernel
theorem dL_law_552 : decode cL_law 552 = .ok (.iconst 2, 1) := by decide +kernel
theorem dL_law_553 : decode cL_law 553 = .ok (.iadd, 1) := by decide +kernel
theorem dL_law_554 : decode cL_law 554 = .ok (.iaload, 1) := by decide +kernel
theorem dL_law_555 : decode cL_law 555 = .ok (.aload_n 0, 1) := by decide +kernel
theorem dL_law_556 : decode cL_law 556 = .ok (.iload_n 3, 1) := by decide +kernel
theorem dL_law_557 : decode cL_law 557 = .ok (.iconst 3, 1) := by decide +kernel
theorem dL_law_558 : decode cL_law 558 = .ok (.iadd, 1) := by decide +kernel
theorem dL_law_559 : decode cL_law 559 = .ok (.iaload, 1) := by decide +kernel
theorem dL_law_560 : decode cL_law 560 = .ok (.invokevirtual 56, 3) := by decide +kernel
theorem dL_law_563 : decode cL_law 563 = .ok (.if_icmp .eq 475, 3) := by decide +kernel
theorem dL_law_566 : decode cL_law 566 = .ok (.iconst 0, 1) := by decide +kernel
theorem dL_law_567 : decode cL_law 567 = .ok (.ireturn, 1) := by decide +kernel
theorem dL_law_568 : decode cL_law 568 = .ok (.aload_n 1, 1) := by decide +kernel
theorem dL_law_569 : decode cL_law 569 = .ok (.aload_n 0, 1) := by decide +kernel
theorem dL_law_570 : decode cL_law 570 = .ok (.iload_n 3, 1) := by decide +kernel
theorem dL_law_571 : decode cL_law 571 = .ok (.iconst 1, 1) := by decide +kernel
theorem dL_law_572 : decode cL_law 572 = .ok (.iadd, 1) := by decide +kernel
theorem dL_law_573 : decode cL_law 573 = .ok (.iaload, 1) := by decide +kernel
theorem dL_law_574 : decode cL_law 574 = .ok (.aload_n 0, 1) := by decide +kernel
theorem dL_law_575 : decode cL_law 575 = .ok (.iload_n 3, 1) := by decide +kernel
theorem dL_law_576 : decode cL_law 576 = .ok (.iconst 2, 1) := by decide +kernel
theorem dL_law_577 : decode cL_law 577 = .ok (.iadd, 1) := by decide +kernel
theorem dL_law_578 : decode cL_law 578 = .ok (.iaload, 1) := by decide +kernel
theorem dL_law_579 : decode cL_law 579 = .ok (.aload_n 0, 1) := by decide +kernel
theorem dL_law_580 : decode cL_law 580 = .ok (.iload_n 3, 1) := by decide +kernel
theorem dL_law_581 : decode cL_law 581 = .ok (.iconst 3, 1) := by decide +kernel
theorem dL_law_582 : decode cL_law 582 = .ok (.iadd, 1) := by decide +kernel
theorem dL_law_583 : decode cL_law 583 = .ok (.iaload, 1) := by decide +kernel
theorem dL_law_584 : decode cL_law 584 = .ok (.invokevirtual 57, 3) := by decide +kernel
theorem dL_law_587 : decode cL_law 587 = .ok (.aload_n 2, 1) := by decide +kernel
theorem dL_law_588 : decode cL_law 588 = .ok (.aload_n 0, 1) := by decide +kernel
theorem dL_law_589 : decode cL_law 589 = .ok (.iload_n 3, 1) := by decide +kernel
theorem dL_law_590 : decode cL_law 590 = .ok (.iconst 1, 1) := by decide +kernel
theorem dL_law_591 : decode cL_law 591 = .ok (.iadd, 1) := by decide +kernel
theorem dL_law_592 : decode cL_law 592 = .ok (.iaload, 1) := by decide +kernel
theorem dL_law_593 : decode cL_law 593 = .ok (.aload_n 0, 1) := by decide +kernel
theorem dL_law_594 : decode cL_law 594 = .ok (.iload_n 3, 1) := by decide +kernel
theorem dL_law_595 : decode cL_law 595 = .ok (.iconst 2, 1) := by decide +kernel
theorem dL_law_596 : decode cL_law 596 = .ok (.iadd, 1) := by decide +kernel
theorem dL_law_597 : decode cL_law 597 = .ok (.iaload, 1) := by decide +kernel
theorem dL_law_598 : decode cL_law 598 = .ok (.aload_n 0, 1) := by decide +kernel
theorem dL_law_599 : decode cL_law 599 = .ok (.iload_n 3, 1) := by decide +kernel
theorem dL_law_600 : decode cL_law 600 = .ok (.iconst 3, 1) := by decide +kernel
theorem dL_law_601 : decode cL_law 601 = .ok (.iadd, 1) := by decide +kernel
theorem dL_law_602 : decode cL_law 602 = .ok (.iaload, 1) := by decide +kernel
theorem dL_law_603 : decode cL_law 603 = .ok (.invokevirtual 60, 3) := by decide +kernel
theorem dL_law_606 : decode cL_law 606 = .ok (.if_icmp .eq 432, 3) := by decide +kernel
theorem dL_law_609 : decode cL_law 609 = .ok (.iconst 0, 1) := by decide +kernel
theorem dL_law_610 : decode cL_law 610 = .ok (.ireturn, 1) := by decide +kernel
end
section
theorem dL_law_611 : decode cL_law 611 = .ok (.aload_n 1, 1) := by decide +kernel
theorem dL_law_612 : decode cL_law 612 = .ok (.aload_n 0, 1) := by decide +kernel
theorem dL_law_613 : decode cL_law 613 = .ok (.iload_n 3, 1) := by decide +kernel
theorem dL_law_614 : decode cL_law 614 = .ok (.iconst 1, 1) := by decide +kernel
theorem dL_law_615 : decode cL_law 615 = .ok (.iadd, 1) := by decide +kernel
theorem dL_law_616 : decode cL_law 616 = .ok (.iaload, 1) := by decide +kernel
theorem dL_law_617 : decode cL_law 617 = .ok (.invokevirtual 61, 3) := by decide +kernel
theorem dL_law_620 : decode cL_law 620 = .ok (.aload_n 2, 1) := by decide +kernel
theorem dL_law_621 : decode cL_law 621 = .ok (.aload_n 0, 1) := by decide +kernel
theorem dL_law_622 : decode cL_law 622 = .ok (.iload_n 3, 1) := by decide +kernel
theorem dL_law_623 : decode cL_law 623 = .ok (.iconst 1, 1) := by decide +kernel
theorem dL_law_624 : decode cL_law 624 = .ok (.iadd, 1) := by decide +kernel
theorem dL_law_625 : decode cL_law 625 = .ok (.iaload, 1) := by decide +kernel
theorem dL_law_626 : decode cL_law 626 = .ok (.invokevirtual 65, 3) := by decide +kernel
theorem dL_law_629 : decode cL_law 629 = .ok (.if_icmp .eq 409, 3) := by decide +kernel
theorem dL_law_632 : decode cL_law 632 = .ok (.iconst 0, 1) := by decide +kernel
theorem dL_law_633 : decode cL_law 633 = .ok (.ireturn, 1) := by decide +kernel
theorem dL_law_634 : decode cL_law 634 = .ok (.aload_n 1, 1) := by decide +kernel
theorem dL_law_635 : decode cL_law 635 = .ok (.aload_n 0, 1) := by decide +kernel
theorem dL_law_636 : decode cL_law 636 = .ok (.iload_n 3, 1) := by decide +kernel
theorem dL_law_637 : decode cL_law 637 = .ok (.iconst 1, 1) := by decide +kernel
theorem dL_law_638 : decode cL_law 638 = .ok (.iadd, 1) := by decide +kernel
theorem dL_law_639 : decode cL_law 639 = .ok (.iaload, 1) := by decide +kernel
theorem dL_law_640 : decode cL_law 640 = .ok (.aload_n 0, 1) := by decide +kernel
theorem dL_law_641 : decode cL_law 641 = .ok (.iload_n 3, 1) := by decide +kernel
theorem dL_law_642 : decode cL_law 642 = .ok (.iconst 2, 1) := by decide +kernel
theorem dL_law_643 : decode cL_law 643 = .ok (.iadd, 1) := by decide +kernel
theorem dL_law_644 : decode cL_law 644 = .ok (.iaload, 1) := by decide +kernel
theorem dL_law_645 : decode cL_law 645 = .ok (.invokevirtual 66, 3) := by decide +kernel
theorem dL_law_648 : decode cL_law 648 = .ok (.aload_n 2, 1) := by decide +kernel
theorem dL_law_649 : decode cL_law 649 = .ok (.aload_n 0, 1) := by decide +kernel
theorem dL_law_650 : decode cL_law 650 = .ok (.iload_n 3, 1) := by decide +kernel
theorem dL_law_651 : decode cL_law 651 = .ok (.iconst 1, 1) := by decide +kernel
theorem dL_law_652 : decode cL_law 652 = .ok (.iadd, 1) := by decide +kernel
theorem dL_law_653 : decode cL_law 653 = .ok (.iaload, 1) := by decide +kernel
theorem dL_law_654 : decode cL_law 654 = .ok (.aload_n 0, 1) := by decide +kernel
theorem dL_law_655 : decode cL_law 655 = .ok (.iload_n 3, 1) := by decide +kernel
theorem dL_law_656 : decode cL_law 656 = .ok (.iconst 2, 1) := by decide +kernel
theorem dL_law_657 : decode cL_law 657 = .ok (.iadd, 1) := by decide +kernel
theorem dL_law_658 : decode cL_law 658 = .ok (.iaload, 1) := by decide +kernel
theorem dL_law_659 : decode cL_law 659 = .ok (.invokevirtual 69, 3) := by decide +kernel
theorem dL_law_662 : decode cL_law 662 = .ok (.if_icmp .eq 376, 3) := by decide +kernel
theorem dL_law_665 : decode cL_law 665 = .ok (.iconst 0, 1) := by decide +kernel
theorem dL_law_666 : decode cL_law 666 = .ok (.ireturn, 1) := by decide +kernel
theorem dL_law_667 : decode cL_law 667 = .ok (.aload_n 1, 1) := by decide +kernel
theorem dL_law_668 : decode cL_law 668 = .ok (.aload_n 0, 1) := by decide +kernel
theorem dL_law_669 : decode cL_law 669 = .ok (.iload_n 3, 1) := by decide +kernel
theorem dL_law_670 : decode cL_law 670 = .ok (.iconst 1, 1) := by decide +kernel
theorem dL_law_671 : decode cL_law 671 = .ok (.iadd, 1) := by decide +kernel
theorem dL_law_672 : decode cL_law 672 = .ok (.iaload, 1) := by decide +kernel
theorem dL_law_673 : decode cL_law 673 = .ok (.invokevirtual 70, 3) := by decide +kernel
theorem dL_law_676 : decode cL_law 676 = .ok (.aload_n 2, 1) := by decide +kernel
theorem dL_law_677 : decode cL_law 677 = .ok (.aload_n 0, 1) := by decide +kernel
theorem dL_law_678 : decode cL_law 678 = .ok (.iload_n 3, 1) := by decide +kernel
theorem dL_law_679 : decode cL_law 679 = .ok (.iconst 1, 1) := by decide +kernel
theorem dL_law_680 : decode cL_law 680 = .ok (.iadd, 1) := by decide +kernel
theorem dL_law_681 : decode cL_law 681 = .ok (.iaload, 1) := by decide +kernel
theorem dL_law_682 : decode cL_law 682 = .ok (.invokevirtual 73, 3) := by decide +kernel
theorem dL_law_685 : decode cL_law 685 = .ok (.if_icmp .eq 353, 3) := by decide +kernel
theorem dL_law_688 : decode cL_law 688 = .ok (.iconst 0, 1) := by decide +kernel
theorem dL_law_689 : decode cL_law 689 = .ok (.ireturn, 1) := by decide +kernel
theorem dL_law_690 : decode cL_law 690 = .ok (.aload_n 1, 1) := by decide +kernel
theorem dL_law_691 : decode cL_law 691 = .ok (.aload_n 0, 1) := by decide +kernel
theorem dL_law_692 : decode cL_law 692 = .ok (.iload_n 3, 1) := by decide +kernel
theorem dL_law_693 : decode cL_law 693 = .ok (.iconst 1, 1) := by decide +kernel
theorem dL_law_694 : decode cL_law 694 = .ok (.iadd, 1) := by decide +kernel
theorem dL_law_695 : decode cL_law 695 = .ok (.iaload, 1) := by decide +kernel
theorem dL_law_696 : decode cL_law 696 = .ok (.aload_n 0, 1) := by decide +kernel
theorem dL_law_697 : decode cL_law 697 = .ok (.iload_n 3, 1) := by decide +kernel
theorem dL_law_698 : decode cL_law 698 = .ok (.iconst 2, 1) := by decide +kernel
theorem dL_law_699 : decode cL_law 699 = .ok (.iadd, 1) := by decide +kernel
theorem dL_law_700 : decode cL_law 700 = .ok (.iaload, 1) := by decide +kernel
theorem dL_law_701 : decode cL_law 701 = .ok (.aload_n 0, 1) := by decide +kernel
theorem dL_law_702 : decode cL_law 702 = .ok (.iload_n 3, 1) := by decide +kernel
theorem dL_law_703 : decode cL_law 703 = .ok (.iconst 3, 1) := by decide +kernel
theorem dL_law_704 : decode cL_law 704 = .ok (.iadd, 1) := by decide +kernel
theorem dL_law_705 : decode cL_law 705 = .ok (.iaload, 1) := by decide +kernel
theorem dL_law_706 : decode cL_law 706 = .ok (.aload_n 0, 1) := by decide +kernel
theorem dL_law_707 : decode cL_law 707 = .ok (.iload_n 3, 1) := by decide +kernel
theorem dL_law_708 : decode cL_law 708 = .ok (.iconst 4, 1) := by decide +kernel
theorem dL_law_709 : decode cL_law 709 = .ok (.iadd, 1) := by decide +kernel
theorem dL_law_710 : decode cL_law 710 = .ok (.iaload, 1) := by decide +kernel
theorem dL_law_711 : decode cL_law 711 = .ok (.invokevirtual 74, 3) := by decide +kernel
theorem dL_law_714 : decode cL_law 714 = .ok (.aload_n 2, 1) := by decide +kernel
theorem dL_law_715 : decode cL_law 715 = .ok (.aload_n 0, 1) := by decide +kernel
theorem dL_law_716 : decode cL_law 716 = .ok (.iload_n 3, 1) := by decide +kernel
theorem dL_law_717 : decode cL_law 717 = .ok (.iconst 1, 1) := by decide +kernel
theorem dL_law_718 : decode cL_law 718 = .ok (.iadd, 1) := by decide +kernel
theorem dL_law_719 : decode cL_law 719 = .ok (.iaload, 1) := by decide +kernel
theorem dL_law_720 : decode cL_law 720 = .ok (.aload_n 0, 1) := by decide +kernel
theorem dL_law_721 : decode cL_law 721 = .ok (.iload_n 3, 1) := by decide +kernel
theorem dL_law_722 : decode cL_law 722 = .ok (.iconst 2, 1) := by decide +kernel
theorem dL_law_723 : decode cL_law 723 = .ok (.iadd, 1) := by decide +kernel
theorem dL_law_724 : decode cL_law 724 = .ok (.iaload, 1) := by decide +kernel
theorem dL_law_725 : decode cL_law 725 = .ok (.aload_n 0, 1) := by decide +kernel
theorem dL_law_726 : decode cL_law 726 = .ok (.iload_n 3, 1) := by decide +kernel
theorem dL_law_727 : decode cL_law 727 = .ok (.iconst 3, 1) := by decide +kernel
theorem dL_law_728 : decode cL_law 728 = .ok (.iadd, 1) := by decide +kernel
theorem dL_law_729 : decode cL_law 729 = .ok (.iaload, 1) := by decide +kernel
theorem dL_law_730 : decode cL_law 730 = .ok (.aload_n 0, 1) := by decide +kernel
theorem dL_law_731 : decode cL_law 731 = .ok (.iload_n 3, 1) := by decide +kernel
theorem dL_law_732 : decode cL_law 732 = .ok (.iconst 4, 1) := by decide +kernel
theorem dL_law_733 : decode cL_law 733 = .ok (.iadd, 1) := by decide +kernel
theorem dL_law_734 : decode cL_law 734 = .ok (.iaload, 1) := by decide +kernel
theorem dL_law_735 : decode cL_law 735 = .ok (.invokevirtual 78, 3) := by decide +kernel
theorem dL_law_738 : decode cL_law 738 = .ok (.lcmp, 1) := by decide +kernel
theorem dL_law_739 : decode cL_law 739 = .ok (.ifCond .eq 299, 3) := by decide +kernel
theorem dL_law_742 : decode cL_law 742 = .ok (.iconst 0, 1) := by decide +kernel
theorem dL_law_743 : decode cL_law 743 = .ok (.ireturn, 1) := by decide +kernel
theorem dL_law_744 : decode cL_law 744 = .ok (.aload_n 1, 1) := by decide +kernel
theorem dL_law_745 : decode cL_law 745 = .ok (.aload_n 0, 1) := by decide +kernel
theorem dL_law_746 : decode cL_law 746 = .ok (.iload_n 3, 1) := by decide +kernel
theorem dL_law_747 : decode cL_law 747 = .ok (.iconst 1, 1) := by decide +kernel
theorem dL_law_748 : decode cL_law 748 = .ok (.iadd, 1) := by decide +kernel
theorem dL_law_749 : decode cL_law 749 = .ok (.iaload, 1) := by decide +kernel
theorem dL_law_750 : decode cL_law 750 = .ok (.aload_n 0, 1) := by decide +kernel
theorem dL_law_751 : decode cL_law 751 = .ok (.iload_n 3, 1) := by decide +kernel
theorem dL_law_752 : decode cL_law 752 = .ok (.iconst 2, 1) := by decide +kernel
theorem dL_law_753 : decode cL_law 753 = .ok (.iadd, 1) := by decide +kernel
theorem dL_law_754 : decode cL_law 754 = .ok (.iaload, 1) := by decide +kernel
theorem dL_law_755 : decode cL_law 755 = .ok (.aload_n 0, 1) := by decide +kernel
theorem dL_law_756 : decode cL_law 756 = .ok (.iload_n 3, 1) := by decide +kernel
theorem dL_law_757 : decode cL_law 757 = .ok (.iconst 3, 1) := by decide +kernel
theorem dL_law_758 : decode cL_law 758 = .ok (.iadd, 1) := by decide +kernel
theorem dL_law_759 : decode cL_law 759 = .ok (.iaload, 1) := by decide +kernel
theorem dL_law_760 : decode cL_law 760 = .ok (.invokevirtual 79, 3) := by decide +kernel
theorem dL_law_763 : decode cL_law 763 = .ok (.aload_n 2, 1) := by decide +kernel
theorem dL_law_764 : decode cL_law 764 = .ok (.aload_n 0, 1) := by decide +kernel
theorem dL_law_765 : decode cL_law 765 = .ok (.iload_n 3, 1) := by decide +kernel
theorem dL_law_766 : decode cL_law 766 = .ok (.iconst 1, 1) := by decide +kernel
theorem dL_law_767 : decode cL_law 767 = .ok (.iadd, 1) := by decide +kernel
theorem dL_law_768 : decode cL_law 768 = .ok (.iaload, 1) := by decide +kernel
theorem dL_law_769 : decode cL_law 769 = .ok (.aload_n 0, 1) := by decide +kernel
theorem dL_law_770 : decode cL_law 770 = .ok (.iload_n 3, 1) := by decide +kernel
theorem dL_law_771 : decode cL_law 771 = .ok (.iconst 2, 1) := by decide +kernel
theorem dL_law_772 : decode cL_law 772 = .ok (.iadd, 1) := by decide +kernel
theorem dL_law_773 : decode cL_law 773 = .ok (.iaload, 1) := by decide +kernel
theorem dL_law_774 : decode cL_law 774 = .ok (.aload_n 0, 1) := by decide +kernel
theorem dL_law_775 : decode cL_law 775 = .ok (.iload_n 3, 1) := by decide +kernel
theorem dL_law_776 : decode cL_law 776 = .ok (.iconst 3, 1) := by decide +kernel
theorem dL_law_777 : decode cL_law 777 = .ok (.iadd, 1) := by decide +kernel
theorem dL_law_778 : decode cL_law 778 = .ok (.iaload, 1) := by decide +kernel
theorem dL_law_779 : decode cL_law 779 = .ok (.invokevirtual 83, 3) := by decide +kernel
theorem dL_law_782 : decode cL_law 782 = .ok (.lcmp, 1) := by decide +kernel
theorem dL_law_783 : decode cL_law 783 = .ok (.ifCond .eq 255, 3) := by decide +kernel
theorem dL_law_786 : decode cL_law 786 = .ok (.iconst 0, 1) := by decide +kernel
theorem dL_law_787 : decode cL_law 787 = .ok (.ireturn, 1) := by decide +kernel
theorem dL_law_788 : decode cL_law 788 = .ok (.aload_n 1, 1) := by decide +kernel
theorem dL_law_789 : decode cL_law 789 = .ok (.aload_n 0, 1) := by decide +kernel
theorem dL_law_790 : decode cL_law 790 = .ok (.iload_n 3, 1) := by decide +kernel
theorem dL_law_791 : decode cL_law 791 = .ok (.iconst 1, 1) := by decide +kernel
theorem dL_law_792 : decode cL_law 792 = .ok (.iadd, 1) := by decide +kernel
theorem dL_law_793 : decode cL_law 793 = .ok (.iaload, 1) := by decide +kernel
theorem dL_law_794 : decode cL_law 794 = .ok (.aload_n 0, 1) := by decide +kernel
theorem dL_law_795 : decode cL_law 795 = .ok (.iload_n 3, 1) := by decide +kernel
theorem dL_law_796 : decode cL_law 796 = .ok (.iconst 2, 1) := by decide +kernel
theorem dL_law_797 : decode cL_law 797 = .ok (.iadd, 1) := by decide +kernel
theorem dL_law_798 : decode cL_law 798 = .ok (.iaload, 1) := by decide +kernel
theorem dL_law_799 : decode cL_law 799 = .ok (.aload_n 0, 1) := by decide +kernel
theorem dL_law_800 : decode cL_law 800 = .ok (.iload_n 3, 1) := by decide +kernel
theorem dL_law_801 : decode cL_law 801 = .ok (.iconst 3, 1) := by decide +kernel
theorem dL_law_802 : decode cL_law 802 = .ok (.iadd, 1) := by decide +kernel
theorem dL_law_803 : decode cL_law 803 = .ok (.iaload, 1) := by decide +kernel
theorem dL_law_804 : decode cL_law 804 = .ok (.invokevirtual 84, 3) := by decide +kernel
theorem dL_law_807 : decode cL_law 807 = .ok (.aload_n 2, 1) := by decide +kernel
theorem dL_law_808 : decode cL_law 808 = .ok (.aload_n 0, 1) := by decide +kernel
theorem dL_law_809 : decode cL_law 809 = .ok (.iload_n 3, 1) := by decide +kernel
theorem dL_law_810 : decode cL_law 810 = .ok (.iconst 1, 1) := by decide +kernel
theorem dL_law_811 : decode cL_law 811 = .ok (.iadd, 1) := by decide +kernel
theorem dL_law_812 : decode cL_law 812 = .ok (.iaload, 1) := by decide +kernel
theorem dL_law_813 : decode cL_law 813 = .ok (.aload_n 0, 1) := by decide +kernel
theorem dL_law_814 : decode cL_law 814 = .ok (.iload_n 3, 1) := by decide +kernel
theorem dL_law_815 : decode cL_law 815 = .ok (.iconst 2, 1) := by decide +kernel
theorem dL_law_816 : decode cL_law 816 = .ok (.iadd, 1) := by decide +kernel
theorem dL_law_817 : decode cL_law 817 = .ok (.iaload, 1) := by decide +kernel
theorem dL_law_818 : decode cL_law 818 = .ok (.aload_n 0, 1) := by decide +kernel
theorem dL_law_819 : decode cL_law 819 = .ok (.iload_n 3, 1) := by decide +kernel
theorem dL_law_820 : decode cL_law 820 = .ok (.iconst 3, 1) := by decide +kernel
theorem dL_law_821 : decode cL_law 821 = .ok (.iadd, 1) := by decide +kernel
theorem dL_law_822 : decode cL_law 822 = .ok (.iaload, 1) := by decide +kernel
theorem dL_law_823 : decode cL_law 823 = .ok (.invokevirtual 87, 3) := by decide +kernel
theorem dL_law_826 : decode cL_law 826 = .ok (.if_icmp .eq 212, 3) := by decide +kernel
theorem dL_law_829 : decode cL_law 829 = .ok (.iconst 0, 1) := by decide +kernel
theorem dL_law_830 : decode cL_law 830 = .ok (.ireturn, 1) := by decide +kernel
theorem dL_law_831 : decode cL_law 831 = .ok (.aload_n 1, 1) := by decide +kernel
theorem dL_law_832 : decode cL_law 832 = .ok (.aload_n 0, 1) := by decide +kernel
theorem dL_law_833 : decode cL_law 833 = .ok (.iload_n 3, 1) := by decide +kernel
theorem dL_law_834 : decode cL_law 834 = .ok (.iconst 1, 1) := by decide +kernel
theorem dL_law_835 : decode cL_law 835 = .ok (.iadd, 1) := by decide +kernel
theorem dL_law_836 : decode cL_law 836 = .ok (.iaload, 1) := by decide +kernel
theorem dL_law_837 : decode cL_law 837 = .ok (.aload_n 0, 1) := by decide +kernel
theorem dL_law_838 : decode cL_law 838 = .ok (.iload_n 3, 1) := by decide +kernel
theorem dL_law_839 : decode cL_law 839 = .ok (.iconst 2, 1) := by decide +kernel
theorem dL_law_840 : decode cL_law 840 = .ok (.iadd, 1) := by decide +kernel
theorem dL_law_841 : decode cL_law 841 = .ok (.iaload, 1) := by decide +kernel
theorem dL_law_842 : decode cL_law 842 = .ok (.aload_n 0, 1) := by decide +kernel
theorem dL_law_843 : decode cL_law 843 = .ok (.iload_n 3, 1) := by decide +kernel
theorem dL_law_844 : decode cL_law 844 = .ok (.iconst 3, 1) := by decide +kernel
theorem dL_law_845 : decode cL_law 845 = .ok (.iadd, 1) := by decide +kernel
theorem dL_law_846 : decode cL_law 846 = .ok (.iaload, 1) := by decide +kernel
theorem dL_law_847 : decode cL_law 847 = .ok (.invokevirtual 88, 3) := by decide +kernel
theorem dL_law_850 : decode cL_law 850 = .ok (.aload_n 2, 1) := by decide +kernel
theorem dL_law_851 : decode cL_law 851 = .ok (.aload_n 0, 1) := by decide +kernel
theorem dL_law_852 : decode cL_law 852 = .ok (.iload_n 3, 1) := by decide +kernel
theorem dL_law_853 : decode cL_law 853 = .ok (.iconst 1, 1) := by decide +kernel
theorem dL_law_854 : decode cL_law 854 = .ok (.iadd, 1) := by decide +kernel
theorem dL_law_855 : decode cL_law 855 = .ok (.iaload, 1) := by decide +kernel
theorem dL_law_856 : decode cL_law 856 = .ok (.aload_n 0, 1) := by decide +kernel
theorem dL_law_857 : decode cL_law 857 = .ok (.iload_n 3, 1) := by decide +kernel
theorem dL_law_858 : decode cL_law 858 = .ok (.iconst 2, 1) := by decide +kernel
theorem dL_law_859 : decode cL_law 859 = .ok (.iadd, 1) := by decide +kernel
theorem dL_law_860 : decode cL_law 860 = .ok (.iaload, 1) := by decide +kernel
theorem dL_law_861 : decode cL_law 861 = .ok (.aload_n 0, 1) := by decide +kernel
theorem dL_law_862 : decode cL_law 862 = .ok (.iload_n 3, 1) := by decide +kernel
theorem dL_law_863 : decode cL_law 863 = .ok (.iconst 3, 1) := by decide +kernel
theorem dL_law_864 : decode cL_law 864 = .ok (.iadd, 1) := by decide +kernel
theorem dL_law_865 : decode cL_law 865 = .ok (.iaload, 1) := by decide +kernel
theorem dL_law_866 : decode cL_law 866 = .ok (.invokevirtual 91, 3) := by decide +kernel
theorem dL_law_869 : decode cL_law 869 = .ok (.if_icmp .eq 169, 3) := by decide +kernel
theorem dL_law_872 : decode cL_law 872 = .ok (.iconst 0, 1) := by decide +kernel
theorem dL_law_873 : decode cL_law 873 = .ok (.ireturn, 1) := by decide +kernel
theorem dL_law_874 : decode cL_law 874 = .ok (.aload_n 1, 1) := by decide +kernel
theorem dL_law_875 : decode cL_law 875 = .ok (.aload_n 0, 1) := by decide +kernel
theorem dL_law_876 : decode cL_law 876 = .ok (.iload_n 3, 1) := by decide +kernel
theorem dL_law_877 : decode cL_law 877 = .ok (.iconst 1, 1) := by decide +kernel
theorem dL_law_878 : decode cL_law 878 = .ok (.iadd, 1) := by decide +kernel
theorem dL_law_879 : decode cL_law 879 = .ok (.iaload, 1) := by decide +kernel
theorem dL_law_880 : decode cL_law 880 = .ok (.invokevirtual 92, 3) := by decide +kernel
theorem dL_law_883 : decode cL_law 883 = .ok (.aload_n 2, 1) := by decide +kernel
theorem dL_law_884 : decode cL_law 884 = .ok (.aload_n 0, 1) := by decide +kernel
theorem dL_law_885 : decode cL_law 885 = .ok (.iload_n 3, 1) := by decide +kernel
theorem dL_law_886 : decode cL_law 886 = .ok (.iconst 1, 1) := by decide +kernel
theorem dL_law_887 : decode cL_law 887 = .ok (.iadd, 1) := by decide +kernel
theorem dL_law_888 : decode cL_law 888 = .ok (.iaload, 1) := by decide +kernel
theorem dL_law_889 : decode cL_law 889 = .ok (.invokevirtual 95, 3) := by decide +kernel
theorem dL_law_892 : decode cL_law 892 = .ok (.if_icmp .eq 146, 3) := by decide +kernel
theorem dL_law_895 : decode cL_law 895 = .ok (.iconst 0, 1) := by decide +kernel
theorem dL_law_896 : decode cL_law 896 = .ok (.ireturn, 1) := by decide +kernel
theorem dL_law_897 : decode cL_law 897 = .ok (.aload_n 1, 1) := by decide +kernel
theorem dL_law_898 : decode cL_law 898 = .ok (.aload_n 0, 1) := by decide +kernel
theorem dL_law_899 : decode cL_law 899 = .ok (.iload_n 3, 1) := by decide +kernel
theorem dL_law_900 : decode cL_law 900 = .ok (.iconst 1, 1) := by decide +kernel
theorem dL_law_901 : decode cL_law 901 = .ok (.iadd, 1) := by decide +kernel
theorem dL_law_902 : decode cL_law 902 = .ok (.iaload, 1) := by decide +kernel
theorem dL_law_903 : decode cL_law 903 = .ok (.aload_n 0, 1) := by decide +kernel
theorem dL_law_904 : decode cL_law 904 = .ok (.iload_n 3, 1) := by decide +kernel
theorem dL_law_905 : decode cL_law 905 = .ok (.iconst 2, 1) := by decide +kernel
theorem dL_law_906 : decode cL_law 906 = .ok (.iadd, 1) := by decide +kernel
theorem dL_law_907 : decode cL_law 907 = .ok (.iaload, 1) := by decide +kernel
theorem dL_law_908 : decode cL_law 908 = .ok (.i2l, 1) := by decide +kernel
theorem dL_law_909 : decode cL_law 909 = .ok (.bipush 32, 2) := by decide +kernel
theorem dL_law_911 : decode cL_law 911 = .ok (.lshl, 1) := by decide +kernel
theorem dL_law_912 : decode cL_law 912 = .ok (.aload_n 0, 1) := by decide +kernel
theorem dL_law_913 : decode cL_law 913 = .ok (.iload_n 3, 1) := by decide +kernel
theorem dL_law_914 : decode cL_law 914 = .ok (.iconst 3, 1) := by decide +kernel
theorem dL_law_915 : decode cL_law 915 = .ok (.iadd, 1) := by decide +kernel
theorem dL_law_916 : decode cL_law 916 = .ok (.iaload, 1) := by decide +kernel
theorem dL_law_917 : decode cL_law 917 = .ok (.i2l, 1) := by decide +kernel
theorem dL_law_918 : decode cL_law 918 = .ok (.ldc2_w 96, 3) := by decide +kernel
theorem dL_law_921 : decode cL_law 921 = .ok (.land, 1) := by decide +kernel
theorem dL_law_922 : decode cL_law 922 = .ok (.lor, 1) := by decide +kernel
theorem dL_law_923 : decode cL_law 923 = .ok (.invokevirtual 98, 3) := by decide +kernel
theorem dL_law_926 : decode cL_law 926 = .ok (.aload_n 2, 1) := by decide +kernel
theorem dL_law_927 : decode cL_law 927 = .ok (.aload_n 0, 1) := by decide +kernel
theorem dL_law_928 : decode cL_law 928 = .ok (.iload_n 3, 1) := by decide +kernel
theorem dL_law_929 : decode cL_law 929 = .ok (.iconst 1, 1) := by decide +kernel
theorem dL_law_930 : decode cL_law 930 = .ok (.iadd, 1) := by decide +kernel
theorem dL_law_931 : decode cL_law 931 = .ok (.iaload, 1) := by decide +kernel
theorem dL_law_932 : decode cL_law 932 = .ok (.aload_n 0, 1) := by decide +kernel
theorem dL_law_933 : decode cL_law 933 = .ok (.iload_n 3, 1) := by decide +kernel
theorem dL_law_934 : decode cL_law 934 = .ok (.iconst 2, 1) := by decide +kernel
theorem dL_law_935 : decode cL_law 935 = .ok (.iadd, 1) := by decide +kernel
theorem dL_law_936 : decode cL_law 936 = .ok (.iaload, 1) := by decide +kernel
theorem dL_law_937 : decode cL_law 937 = .ok (.i2l, 1) := by decide +kernel
theorem dL_law_938 : decode cL_law 938 = .ok (.bipush 32, 2) := by decide +kernel
theorem dL_law_940 : decode cL_law 940 = .ok (.lshl, 1) := by decide +kernel
theorem dL_law_941 : decode cL_law 941 = .ok (.aload_n 0, 1) := by decide +kernel
theorem dL_law_942 : decode cL_law 942 = .ok (.iload_n 3, 1) := by decide +kernel
theorem dL_law_943 : decode cL_law 943 = .ok (.iconst 3, 1) := by decide +kernel
theorem dL_law_944 : decode cL_law 944 = .ok (.iadd, 1) := by decide +kernel
theorem dL_law_945 : decode cL_law 945 = .ok (.iaload, 1) := by decide +kernel
theorem dL_law_946 : decode cL_law 946 = .ok (.i2l, 1) := by decide +kernel
theorem dL_law_947 : decode cL_law 947 = .ok (.ldc2_w 96, 3) := by decide +kernel
theorem dL_law_950 : decode cL_law 950 = .ok (.land, 1) := by decide +kernel
theorem dL_law_951 : decode cL_law 951 = .ok (.lor, 1) := by decide +kernel
theorem dL_law_952 : decode cL_law 952 = .ok (.invokevirtual 102, 3) := by decide +kernel
theorem dL_law_955 : decode cL_law 955 = .ok (.if_icmp .eq 83, 3) := by decide +kernel
theorem dL_law_958 : decode cL_law 958 = .ok (.iconst 0, 1) := by decide +kernel
theorem dL_law_959 : decode cL_law 959 = .ok (.ireturn, 1) := by decide +kernel
theorem dL_law_960 : decode cL_law 960 = .ok (.aload_n 1, 1) := by decide +kernel
theorem dL_law_961 : decode cL_law 961 = .ok (.aload_n 0, 1) := by decide +kernel
theorem dL_law_962 : decode cL_law 962 = .ok (.iload_n 3, 1) := by decide +kernel
theorem dL_law_963 : decode cL_law 963 = .ok (.iconst 1, 1) := by decide +kernel
theorem dL_law_964 : decode cL_law 964 = .ok (.iadd, 1) := by decide +kernel
theorem dL_law_965 : decode cL_law 965 = .ok (.iaload, 1) := by decide +kernel
theorem dL_law_966 : decode cL_law 966 = .ok (.aload_n 0, 1) := by decide +kernel
theorem dL_law_967 : decode cL_law 967 = .ok (.iload_n 3, 1) := by decide +kernel
theorem dL_law_968 : decode cL_law 968 = .ok (.iconst 2, 1) := by decide +kernel
theorem dL_law_969 : decode cL_law 969 = .ok (.iadd, 1) := by decide +kernel
theorem dL_law_970 : decode cL_law 970 = .ok (.iaload, 1) := by decide +kernel
theorem dL_law_971 : decode cL_law 971 = .ok (.i2l, 1) := by decide +kernel
theorem dL_law_972 : decode cL_law 972 = .ok (.bipush 32, 2) := by decide +kernel
theorem dL_law_974 : decode cL_law 974 = .ok (.lshl, 1) := by decide +kernel
theorem dL_law_975 : decode cL_law 975 = .ok (.aload_n 0, 1) := by decide +kernel
theorem dL_law_976 : decode cL_law 976 = .ok (.iload_n 3, 1) := by decide +kernel
theorem dL_law_977 : decode cL_law 977 = .ok (.iconst 3, 1) := by decide +kernel
theorem dL_law_978 : decode cL_law 978 = .ok (.iadd, 1) := by decide +kernel
theorem dL_law_979 : decode cL_law 979 = .ok (.iaload, 1) := by decide +kernel
theorem dL_law_980 : decode cL_law 980 = .ok (.i2l, 1) := by decide +kernel
theorem dL_law_981 : decode cL_law 981 = .ok (.ldc2_w 96, 3) := by decide +kernel
theorem dL_law_984 : decode cL_law 984 = .ok (.land, 1) := by decide +kernel
theorem dL_law_985 : decode cL_law 985 = .ok (.lor, 1) := by decide +kernel
theorem dL_law_986 : decode cL_law 986 = .ok (.invokevirtual 103, 3) := by decide +kernel
theorem dL_law_989 : decode cL_law 989 = .ok (.aload_n 2, 1) := by decide +kernel
theorem dL_law_990 : decode cL_law 990 = .ok (.aload_n 0, 1) := by decide +kernel
theorem dL_law_991 : decode cL_law 991 = .ok (.iload_n 3, 1) := by decide +kernel
theorem dL_law_992 : decode cL_law 992 = .ok (.iconst 1, 1) := by decide +kernel
theorem dL_law_993 : decode cL_law 993 = .ok (.iadd, 1) := by decide +kernel
theorem dL_law_994 : decode cL_law 994 = .ok (.iaload, 1) := by decide +kernel
theorem dL_law_995 : decode cL_law 995 = .ok (.aload_n 0, 1) := by decide +kernel
theorem dL_law_996 : decode cL_law 996 = .ok (.iload_n 3, 1) := by decide +kernel
theorem dL_law_997 : decode cL_law 997 = .ok (.iconst 2, 1) := by decide +kernel
theorem dL_law_998 : decode cL_law 998 = .ok (.iadd, 1) := by decide +kernel
theorem dL_law_999 : decode cL_law 999 = .ok (.iaload, 1) := by decide +kernel
theorem dL_law_1000 : decode cL_law 1000 = .ok (.i2l, 1) := by decide +kernel
theorem dL_law_1001 : decode cL_law 1001 = .ok (.bipush 32, 2) := by decide +kernel
theorem dL_law_1003 : decode cL_law 1003 = .ok (.lshl, 1) := by decide +kernel
theorem dL_law_1004 : decode cL_law 1004 = .ok (.aload_n 0, 1) := by decide +kernel
theorem dL_law_1005 : decode cL_law 1005 = .ok (.iload_n 3, 1) := by decide +kernel
theorem dL_law_1006 : decode cL_law 1006 = .ok (.iconst 3, 1) := by decide +kernel
theorem dL_law_1007 : decode cL_law 1007 = .ok (.iadd, 1) := by decide +kernel
theorem dL_law_1008 : decode cL_law 1008 = .ok (.iaload, 1) := by decide +kernel
theorem dL_law_1009 : decode cL_law 1009 = .ok (.i2l, 1) := by decide +kernel
theorem dL_law_1010 : decode cL_law 1010 = .ok (.ldc2_w 96, 3) := by decide +kernel
theorem dL_law_1013 : decode cL_law 1013 = .ok (.land, 1) := by decide +kernel
theorem dL_law_1014 : decode cL_law 1014 = .ok (.lor, 1) := by decide +kernel
theorem dL_law_1015 : decode cL_law 1015 = .ok (.invokevirtual 107, 3) := by decide +kernel
theorem dL_law_1018 : decode cL_law 1018 = .ok (.lcmp, 1) := by decide +kernel
theorem dL_law_1019 : decode cL_law 1019 = .ok (.ifCond .eq 19, 3) := by decide +kernel
theorem dL_law_1022 : decode cL_law 1022 = .ok (.iconst 0, 1) := by decide +kernel
theorem dL_law_1023 : decode cL_law 1023 = .ok (.ireturn, 1) := by decide +kernel
theorem dL_law_1024 : decode cL_law 1024 = .ok (.aload_n 1, 1) := by decide +kernel
theorem dL_law_1025 : decode cL_law 1025 = .ok (.invokevirtual 108, 3) := by decide +kernel
theorem dL_law_1028 : decode cL_law 1028 = .ok (.aload_n 2, 1) := by decide +kernel
theorem dL_law_1029 : decode cL_law 1029 = .ok (.invokevirtual 112, 3) := by decide +kernel
theorem dL_law_1032 : decode cL_law 1032 = .ok (.lcmp, 1) := by decide +kernel
theorem dL_law_1033 : decode cL_law 1033 = .ok (.ifCond .eq 5, 3) := by decide +kernel
theorem dL_law_1036 : decode cL_law 1036 = .ok (.iconst 0, 1) := by decide +kernel
theorem dL_law_1037 : decode cL_law 1037 = .ok (.ireturn, 1) := by decide +kernel
theorem dL_law_1038 : decode cL_law 1038 = .ok (.iinc 3 5, 3) := by decide +kernel
theorem dL_law_1041 : decode cL_law 1041 = .ok (.goto (-1023), 3) := by decide +kernel
theorem dL_law_1044 : decode cL_law 1044 = .ok (.iconst 1, 1) := by decide +kernel
theorem dL_law_1045 : decode cL_law 1045 = .ok (.ireturn, 1) := by decide +kernel
end
section
/-! AN ABSTRACT MACHINE OVER THE KIT'S ROWS. Values, cells and worlds by places; a place's address is ad of it. -/
/-- a value: an int, a long, a reference (a place, or null), the script -/
abbrev AV : Type := Int32 ⊕ (Int64 ⊕ (Option Nat ⊕ Unit))
abbrev vI (x : Int32) : AV := .inl x
abbrev vL (x : Int64) : AV := .inr (.inl x)
abbrev vQ (r : Option Nat) : AV := .inr (.inr (.inl r))
abbrev vR (k : Nat) : AV := .inr (.inr (.inl (some k)))
abbrev vN : AV := .inr (.inr (.inl none))
abbrev vS : AV := .inr (.inr (.inr ()))
def cv (b : Nat) (ad : Nat → Nat) : AV → Value
  | .inl x => .int x
  | .inr (.inl x) => .long x
  | .inr (.inr (.inl r)) => va_rf (r.map ad)
  | .inr (.inr (.inr _)) => .ref b
/-- a cell: an array (its type's place in tysOf, its length, its contents), or an object (its class's place in vwCl, its fields) -/
abbrev AC : Type := (Nat × Nat × ((Nat → Int32) ⊕ ((Nat → Int64) ⊕ (Nat → Option Nat)))) ⊕ (Nat × List AV)
abbrev cI (n : Nat) (f : Nat → Int32) : AC := .inl (0, n, .inl f)
abbrev cJ (n : Nat) (f : Nat → Int64) : AC := .inl (1, n, .inr (.inl f))
abbrev cA (t n : Nat) (f : Nat → Option Nat) : AC := .inl (t, n, .inr (.inr f))
abbrev cO (ci : Nat) (fs : List AV) : AC := .inr (ci, fs)
def cc (b : Nat) (cy : Nat → ClassId) (ad : Nat → Nat) : AC → va_E
  | .inl (t, n, .inl f) => .inl (cy t, n, .inl f)
  | .inl (t, n, .inr (.inl f)) => .inl (cy t, n, .inr (.inl f))
  | .inl (t, n, .inr (.inr f)) => .inl (cy t, n, .inr (.inr (.inr (.inr (fun i => (f i).map ad)))))
  | .inr (ci, fs) => .inr (ci, fs.map (cv b ad))
/-- the cells of a world, from the place k on -/
def wlk (b : Nat) (cy : Nat → ClassId) (ad : Nat → Nat) : Nat → List AC → va_W
  | _, [] => []
  | k, c :: w => (ad k, cc b cy ad c) :: wlk b cy ad (k + 1) w
abbrev wl (b : Nat) (cy : Nat → ClassId) (ad : Nat → Nat) (w : List AC) : va_W := wlk b cy ad 0 w
theorem wlk_get (b : Nat) (cy : Nat → ClassId) (ad : Nat → Nat) : ∀ (w : List AC) (k j : Nat), (wlk b cy ad k w)[j]? = (w[j]?).map (fun c => (ad (k + j), cc b cy ad c))
  | [], _, _ => rfl
  | c :: w, k, 0 => rfl
  | c :: w, k, j + 1 => by
    show (wlk b cy ad (k + 1) w)[j]? = _
    rw [wlk_get b cy ad w (k + 1) j, show k + 1 + j = k + (j + 1) by omega]
    rfl
theorem wl_get {b : Nat} {cy : Nat → ClassId} {ad : Nat → Nat} {w : List AC} {j : Nat} {c : AC} (h : w[j]? = some c) : (wl b cy ad w)[j]? = some (ad j, cc b cy ad c) := by
  rw [wlk_get, h, Nat.zero_add]; rfl
theorem wl_at {b : Nat} {cy : Nat → ClassId} {ad : Nat → Nat} {w : List AC} {j : Nat} {q : Nat × va_E} (h : (wl b cy ad w)[j]? = some q) : ∃ c, w[j]? = some c ∧ q = (ad j, cc b cy ad c) := by
  rw [wlk_get, Nat.zero_add] at h
  cases hc : w[j]? with
  | none => rw [hc] at h; cases h
  | some c => rw [hc] at h; exact ⟨c, rfl, (Option.some.inj h).symm⟩
theorem wl_len {b : Nat} {cy : Nat → ClassId} {ad : Nat → Nat} : ∀ (w : List AC) (k : Nat), (wlk b cy ad k w).length = w.length
  | [], _ => rfl
  | c :: w, k => by
    show (wlk b cy ad (k + 1) w).length + 1 = _
    rw [wl_len w (k + 1)]; rfl
theorem wl_set {b : Nat} {cy : Nat → ClassId} {ad : Nat → Nat} {w : List AC} {j : Nat} {c : AC} : wl b cy ad (w.set j c) = (wl b cy ad w).set j (ad j, cc b cy ad c) := by
  apply List.ext_getElem?
  intro i
  rw [wlk_get, List.getElem?_set, List.getElem?_set, Nat.zero_add, wl_len, wlk_get, Nat.zero_add]
  by_cases h : j = i
  · subst h
    rw [if_pos rfl, if_pos rfl]
    by_cases h2 : j < w.length
    · rw [if_pos h2, if_pos h2]; rfl
    · rw [if_neg h2, if_neg h2]; rfl
  · rw [if_neg h, if_neg h]
theorem wl_app {b : Nat} {cy : Nat → ClassId} {ad : Nat → Nat} {w w2 : List AC} : wl b cy ad (w ++ w2) = wl b cy ad w ++ wlk b cy ad w.length w2 := by
  apply List.ext_getElem?
  intro i
  rw [wlk_get, Nat.zero_add, List.getElem?_append, List.getElem?_append, wl_len, wlk_get, wlk_get, Nat.zero_add]
  by_cases h : i < w.length
  · rw [if_pos h, if_pos h]
  · rw [if_neg h, if_neg h, show w.length + (i - w.length) = i by omega]
/-- the array types -/
abbrev tysOf (cy : Nat → ClassId) : List (ClassId × FieldType) := [(cy 0, .int), (cy 1, .long), (cy 2, .object "SpreadNets$Net"), (cy 3, .array .int), (cy 4, .array .long)]
/-- a method: its name, bytes, locals, answer's type, its class; the script, if it is the law -/
abbrev Mth : Type := MethodName × ByteArray × Nat × Option FieldType × String × Option (Nat × (Nat → Int32))
abbrev mB (M : Mth) : ByteArray := M.2.1
abbrev mL (M : Mth) : Nat := M.2.2.1
abbrev mT (M : Mth) : Option FieldType := M.2.2.2.1
abbrev mO (M : Mth) : String := M.2.2.2.2.1
abbrev mS (M : Mth) : Option (Nat × (Nat → Int32)) := M.2.2.2.2.2
def rOK (M : Mth) (pc : Nat) : Option AV → Prop
  | none => decode (mB M) pc = .ok (.return_, 1) ∧ mT M = none
  | some (.inl x) => decode (mB M) pc = .ok (.ireturn, 1) ∧ ∃ ty, mT M = some ty ∧ narrow ty (.int x) = .int x
  | some (.inr (.inl _)) => decode (mB M) pc = .ok (.lreturn, 1) ∧ mT M = some .long
  | some (.inr (.inr (.inl _))) => decode (mB M) pc = .ok (.areturn, 1) ∧ ∃ C, mT M = some (.object C)
  | some (.inr (.inr (.inr _))) => False
/-- the heap holds the world w -/
def WS (dC : Nat → ClassId) (dI : Nat → Nat → Nat) (cy : Nat → ClassId) (b : Nat) (ad : Nat → Nat) (A : Nat → Prop) (w : List AC) (H : Heap) : Prop :=
  va_P (dC, dI) vwCl (wl b cy ad w) H ∧ va_D A (wl b cy ad w)
/-- how many cells the world has: those of the start, and (where cells may be made) the new ones, of which bc are still to come -/
def HA (al : Bool) (w : List AC) (n0 cells bc MC : Nat) : Prop := (al = true → w.length = n0 + cells ∧ cells + bc = MC) ∧ (al = false → w.length = n0)
theorem HA.set {al : Bool} {w : List AC} {n0 cells bc MC a : Nat} {c : AC} (h : HA al w n0 cells bc MC) : HA al (w.set a c) n0 cells bc MC := ⟨fun q => by rw [List.length_set]; exact h.1 q, fun q => by rw [List.length_set]; exact h.2 q⟩
def lvh (b : Nat) (ad : Nat → Nat) (ls : Array Slot) (n : Nat) (lv : List (Option AV)) : Prop := ls.size = n ∧ lv_wf ls ∧ ∀ (i : Nat) (v : AV), lv[i]? = some (some v) → ls[i]? = some (.val (cv b ad v))
/-- the words that a callee may be handed -/
def tbG : List Cond := lw_tbl.filter goodWord
theorem tbm {x : Cond} (i : Nat) (h : lw_tbl[i]? = some x) (hg : goodWord x = true) : x ∈ tbG := List.mem_filter.mpr ⟨List.mem_of_getElem? h, hg⟩
theorem tbd {x : Cond} (h : x ∈ lw_tbl) (hg : goodWord x = true) : x ∈ tbG := List.mem_filter.mpr ⟨h, hg⟩
theorem tbs {C : String} {T : u_T} {N : Nat} (h : ∀ x ∈ u_ws C T N, x ∈ lw_tbl) : ∀ x ∈ u_ws C T N, x ∈ tbG := fun x hx => by
  refine tbd (h x hx) ?_
  obtain ⟨k, -, rfl⟩ := List.mem_map.mp hx
  unfold u_lay
  split <;> rfl
/-- the words of which a callee is told otherwise: arrays of references, and nest mates -/
def NX (U : State) : Prop := va_AO "SpreadNets$Net" U ∧ (va_Nw (.arrayOver (.array .int)) U ∧ va_Nw (.arrayOver (.array .long)) U) ∧ (va_Nw (.methodLinkNest RX5 15 yX2_init RX5) U ∧ va_Nw (.methodLinkNest RX5 22 yX1_init RX5) U ∧ va_Nw (.methodLinkNest RX5 29 yX3_init RX5) U ∧ va_Nw (.methodLinkNest RX5 36 yX4_init RX5) U ∧ va_Nw (.methodLinkNest RX5 43 yX0_init RX5) U)
theorem ao_moved {t : FieldType} {u U : State} (hvm : u.vm.Alike U.vm) (h : va_Nw (.arrayOver (.array t)) u) : va_Nw (.arrayOver (.array t)) U := by
  unfold va_Nw Cond.before Cond.holds at h ⊢
  simp only [Cond.value] at h ⊢
  have hi : ∀ comp : ClassId, (U.vm.classes.findIdx? fun (x : Class) => match x.kind with | .array component _ => component == comp | _ => false) = (u.vm.classes.findIdx? fun (x : Class) => match x.kind with | .array component _ => component == comp | _ => false) := by
    intro comp
    have hb : U.vm.bare = u.vm.bare := by first | exact hvm.bare_eq | exact hvm.bare_eq.symm
    have e1 := va_idx_bare U.vm comp
    rw [hb] at e1
    exact e1.symm.trans (va_idx_bare u.vm comp)
  rw [hvm.findClass]
  cases hc : u.vm.findClass (FieldType.array t).toString with
  | none => rw [hc] at h; simp at h
  | some comp =>
    rw [hc] at h
    rw [Option.bind_some] at h ⊢
    have h9 := hi comp
    cases hx : (u.vm.classes.findIdx? fun (x : Class) => match x.kind with | .array component _ => component == comp | _ => false) with
    | none =>
      refine absurd ((congrArg (fun o : Option Nat => (o.bind (fun c => (u.vm.classes[c]?).map fun (k : Class) => match k.kind with | .array _ ty => decide (ty = FieldType.array t) && decide (u.vm.findClass ("[" ++ (FieldType.array t).toString) = some c) | _ => false) == some true)) hx).symm.trans h) (by simp)
    | some c =>
      have h1 := (congrArg (fun o : Option Nat => (o.bind (fun c => (u.vm.classes[c]?).map fun (k : Class) => match k.kind with | .array _ ty => decide (ty = FieldType.array t) && decide (u.vm.findClass ("[" ++ (FieldType.array t).toString) = some c) | _ => false) == some true)) hx).symm.trans h
      refine (congrArg (fun o : Option Nat => (o.bind (fun c => (U.vm.classes[c]?).map fun (k : Class) => match k.kind with | .array _ ty => decide (ty = FieldType.array t) && decide (U.vm.findClass ("[" ++ (FieldType.array t).toString) = some c) | _ => false) == some true)) (h9.trans hx)).trans ?_
      simp only [Option.bind_some, hvm.findClass] at h1 ⊢
      cases hk : u.vm.classes[c]? with
      | none => rw [hk] at h1; simp at h1
      | some k =>
        obtain ⟨k', hk', he⟩ := hvm.2.2 _ _ hk
        rw [hk] at h1
        rw [hk', Option.map_some, he]
        exact h1
theorem NX.moved {s U : State} (hW : s.WarmedH U.vm) (h : NX s) : NX U := ⟨h.1.moved hW.alike, ⟨ao_moved hW.alike h.2.1.1, ao_moved hW.alike h.2.1.2⟩, va_Nw.warmM hW h.2.2.1, va_Nw.warmM hW h.2.2.2.1, va_Nw.warmM hW h.2.2.2.2.1, va_Nw.warmM hW h.2.2.2.2.2.1, va_Nw.warmM hW h.2.2.2.2.2.2⟩
theorem NX.same {s U : State} (hv : s.vm = U.vm) (h : NX s) : NX U := ⟨h.1.moved (hv ▸ Vm.Alike.refl s.vm), ⟨ao_moved (hv ▸ Vm.Alike.refl s.vm) h.2.1.1, ao_moved (hv ▸ Vm.Alike.refl s.vm) h.2.1.2⟩, va_Nw.same rfl hv h.2.2.1, va_Nw.same rfl hv h.2.2.2.1, va_Nw.same rfl hv h.2.2.2.2.1, va_Nw.same rfl hv h.2.2.2.2.2.1, va_Nw.same rfl hv h.2.2.2.2.2.2⟩
/-- what stays through a method's walk -/
def Fx (M : Mth) (d : Nat) (al : Bool) (Q : Option AV → List AC → Prop) (p : Program) (l : Launch) (e : Env) (R : Room) (s : State) (m : MethodId) (args : Array Value) (below : List Frame) (meth : Method) (c : Code) (Fin : State → Prop) (dC : Nat → ClassId) (dI : Nat → Nat → Nat) (cy : Nat → ClassId) (b : Nat) (ad : Nat → Nat) (A : Nat → Prop) (MC MS n0 : Nat) : Prop :=
  (p.tables.exec = Jvm.exec ∧ c.code = mB M) ∧ (meth.sig.returnType = mT M ∧ c.maxLocals = mL M ∧ s.vm.findClass (mO M) = some m.cls ∧ meth.name = M.1.name ∧ meth.locks = false ∧ NX s) ∧ (∀ w ∈ tbG, w.before args s = true) ∧ va_K (dC, dI) vwCl (tysOf cy) s ∧ (∀ q : Nat, s.heap.size ≤ q → A q) ∧ (d ≤ R.frames ∧ 36 * d ≤ R.locals ∧ MC ≤ R.cells ∧ MS ≤ R.slots) ∧
  (∀ (L : Nat) (xs : Nat → Int32), mS M = some (L, xs) → va_X b L xs s s.heap ∧ b < s.heap.size ∧ ¬ A b) ∧ (al = true → ∀ j : Nat, ad (n0 + j) = s.heap.size + j) ∧
  ∀ (r : Option AV) (w : List AC) (H : Heap) (locs : List Loc) (cells slots pc : Nat) (ls : Array Slot), Q r w → WS dC dI cy b ad A w H → va_S A s.heap H locs → cells ≤ MC → slots ≤ MS → HA al w n0 cells 0 MC → rOK M pc r → W p l e R s m args below meth c H locs cells slots Fin (F0 m pc ls (r.map (cv b ad)).toList)
/-- from the place pc, with the locals lv, the stack st and the world w, the method M comes to its end, with an answer and a world of Q; d frames, bc cells and bs slots are left -/
def Go (M : Mth) (d : Nat) (al : Bool) (bc bs pc : Nat) (lv : List (Option AV)) (st : List AV) (w : List AC) (Q : Option AV → List AC → Prop) : Prop :=
  ∀ (p : Program) (l : Launch) (e : Env) (R : Room) (s : State) (m : MethodId) (args : Array Value) (below : List Frame) (meth : Method) (c : Code) (Fin : State → Prop) (dC : Nat → ClassId) (dI : Nat → Nat → Nat) (cy : Nat → ClassId) (b : Nat) (ad : Nat → Nat) (A : Nat → Prop) (MC MS n0 : Nat), Fx M d al Q p l e R s m args below meth c Fin dC dI cy b ad A MC MS n0 →
  ∀ (H : Heap) (locs : List Loc) (cells slots : Nat) (ls : Array Slot), cells + bc ≤ MC → slots + bs ≤ MS → WS dC dI cy b ad A w H → va_S A s.heap H locs → HA al w n0 cells bc MC → lvh b ad ls (mL M) lv →
  W p l e R s m args below meth c H locs cells slots Fin (F0 m pc ls (st.map (cv b ad)))
/-- fewer locals are enough -/
def lvle : List (Option AV) → List (Option AV) → Prop
  | [], _ => True
  | none :: t, [] => lvle t []
  | some _ :: _, [] => False
  | none :: t, _ :: u => lvle t u
  | some v :: t, o :: u => o = some v ∧ lvle t u
theorem lvle_at : ∀ (l1 l2 : List (Option AV)), lvle l1 l2 → ∀ (i : Nat) (v : AV), l1[i]? = some (some v) → l2[i]? = some (some v)
  | [], _, _, i, v, h => by simp at h
  | none :: t, [], hl, 0, v, h => by simp at h
  | none :: t, [], hl, i + 1, v, h => by
    have := lvle_at t [] hl i v (by simpa using h)
    simp at this
  | some _ :: _, [], hl, _, _, _ => hl.elim
  | none :: t, o :: u, hl, 0, v, h => by simp at h
  | none :: t, o :: u, hl, i + 1, v, h => by
    have := lvle_at t u hl i v (by simpa using h)
    simpa using this
  | some x :: t, o :: u, hl, 0, v, h => by
    obtain ⟨rfl, -⟩ := hl
    simpa using h
  | some x :: t, o :: u, hl, i + 1, v, h => by
    have := lvle_at t u hl.2 i v (by simpa using h)
    simpa using this
theorem go_sub {M : Mth} {d : Nat} {al : Bool} {bc bs pc : Nat} {lv lv' : List (Option AV)} {st : List AV} {w : List AC} {Q : Option AV → List AC → Prop} (h : lvle lv' lv) (k : Go M d al bc bs pc lv' st w Q) : Go M d al bc bs pc lv st w Q := by
  intro p l e R s m args below meth c Fin dC dI cy b ad A MC MS n0 fx H locs cells slots ls hc hs hw hS ha hl
  exact k p l e R s m args below meth c Fin dC dI cy b ad A MC MS n0 fx H locs cells slots ls hc hs hw hS ha ⟨hl.1, hl.2.1, fun i v hv => hl.2.2 i v (lvle_at _ _ h i v hv)⟩
theorem go_room {M : Mth} {d bc bs bc' bs' pc : Nat} {lv : List (Option AV)} {st : List AV} {w : List AC} {Q : Option AV → List AC → Prop} (h1 : bc' ≤ bc) (h2 : bs' ≤ bs) (k : Go M d false bc' bs' pc lv st w Q) : Go M d false bc bs pc lv st w Q := by
  intro p l e R s m args below meth c Fin dC dI cy b ad A MC MS n0 fx H locs cells slots ls hc hs hw hS ha hl
  exact k p l e R s m args below meth c Fin dC dI cy b ad A MC MS n0 fx H locs cells slots ls (by omega) (by omega) hw hS ⟨fun h => (by cases h), ha.2⟩ hl
/-- storing a local -/
def isL : AV → Bool
  | .inr (.inl _) => true
  | _ => false
def isLo : Option AV → Bool
  | some v => isL v
  | none => false
def lvs : Nat → List (Option AV) → Nat → AV → List (Option AV)
  | _, [], _, _ => []
  | j, o :: t, i, v => (bif Nat.beq j i then some v else bif (Nat.beq (j + 1) i && isLo o) || (isL v && Nat.beq j (i + 1)) then none else o) :: lvs (j + 1) t i v
theorem lvs_get : ∀ (lv : List (Option AV)) (j i k : Nat) (v : AV), (lvs j lv i v)[k]? = (lv[k]?).map (fun o => bif Nat.beq (j + k) i then some v else bif (Nat.beq (j + k + 1) i && isLo o) || (isL v && Nat.beq (j + k) (i + 1)) then none else o)
  | [], _, _, _, _ => rfl
  | o :: t, j, i, 0, v => rfl
  | o :: t, j, i, k + 1, v => by
    show (lvs (j + 1) t i v)[k]? = _
    rw [lvs_get t (j + 1) i k v, show j + 1 + k = j + (k + 1) by omega]
    rfl
theorem cv_cat (b : Nat) (ad : Nat → Nat) (v : AV) : (cv b ad v).category = if isL v = true then 2 else 1 := by
  rcases v with x | x | (_ | r) | u <;> rfl
/-- the kit's list of locals -/
def lvp (b : Nat) (ad : Nat → Nat) (lv : List (Option AV)) : List (Nat × Value) := (List.range lv.length).filterMap (fun i => match lv[i]? with | some (some v) => some (i, cv b ad v) | _ => none)
theorem lvp_mem {b : Nat} {ad : Nat → Nat} {lv : List (Option AV)} {i : Nat} {v : AV} (h : lv[i]? = some (some v)) : (i, cv b ad v) ∈ lvp b ad lv := by
  refine List.mem_filterMap.mpr ⟨i, List.mem_range.mpr (List.getElem?_eq_some_iff.mp h).1, ?_⟩
  simp only [h]
theorem lvp_has {b : Nat} {ad : Nat → Nat} {ls : Array Slot} {n : Nat} {lv : List (Option AV)} (h : lvh b ad ls n lv) : lv_has ls n (lvp b ad lv) := by
  refine ⟨h.1, h.2.1, fun q hq => ?_⟩
  obtain ⟨i, -, hi⟩ := List.mem_filterMap.mp hq
  cases hv : lv[i]? with
  | none => simp only [hv] at hi; cases hi
  | some o =>
    cases o with
    | none => simp only [hv] at hi; cases hi
    | some v =>
      simp only [hv] at hi
      cases hi
      exact h.2.2 i v hv
theorem nbf {a b : Nat} (h : Nat.beq a b = false) : (a == b) = false := by
  refine beq_eq_false_iff_ne.mpr (fun e => ?_)
  subst e
  have := Nat.beq_refl a
  rw [h] at this
  cases this
theorem lvs_has1 {b : Nat} {ad : Nat → Nat} {ls' : Array Slot} {n : Nat} {lv : List (Option AV)} {i : Nat} {v : AV} (hv : isL v = false) (h : lv_has ls' n ((i, cv b ad v) :: (lvp b ad lv).filter (fun q => !(q.1 == i) && !(q.1 + 1 == i && q.2.category == 2)))) : lvh b ad ls' n (lvs 0 lv i v) := by
  refine ⟨h.1, h.2.1, fun k x hx => ?_⟩
  rw [lvs_get, Nat.zero_add] at hx
  cases hk : lv[k]? with
  | none => rw [hk] at hx; cases hx
  | some o =>
    rw [hk] at hx
    have hx := Option.some.inj hx
    rw [hv] at hx
    by_cases e : k = i
    · subst e
      have : Nat.beq k k = true := Nat.beq_refl k
      rw [this] at hx
      cases hx
      exact h.2.2 (k, _) List.mem_cons_self
    · have e1 : Nat.beq k i = false := by
        cases hb : Nat.beq k i with
        | false => rfl
        | true => exact absurd (Nat.eq_of_beq_eq_true hb) e
      rw [e1] at hx
      simp only [cond_false, Bool.false_and, Bool.or_false] at hx
      cases ho : (Nat.beq (k + 1) i && isLo o) with
      | true => rw [ho] at hx; cases hx
      | false =>
        rw [ho] at hx
        simp only [cond_false] at hx
        subst hx
        refine h.2.2 (k, cv b ad x) (List.mem_cons_of_mem _ (List.mem_filter.mpr ⟨lvp_mem hk, ?_⟩))
        simp only [cv_cat]
        have e2 : (k == i) = false := by simpa using e
        rw [e2]
        simp only [Bool.not_false, Bool.true_and]
        cases h1 : Nat.beq (k + 1) i with
        | false =>
          have : (k + 1 == i) = false := nbf h1
          rw [this]; rfl
        | true =>
          rw [h1] at ho
          have hx2 : isL x = false := by simpa [isLo] using ho
          rw [hx2]
          simp
theorem lvs_has2 {b : Nat} {ad : Nat → Nat} {ls' : Array Slot} {n : Nat} {lv : List (Option AV)} {i : Nat} {v : AV} (hv : isL v = true) (h : lv_has ls' n ((i, cv b ad v) :: (lvp b ad lv).filter (fun q => !(q.1 == i) && (!(q.1 == i + 1) && !(q.1 + 1 == i && q.2.category == 2))))) : lvh b ad ls' n (lvs 0 lv i v) := by
  refine ⟨h.1, h.2.1, fun k x hx => ?_⟩
  rw [lvs_get, Nat.zero_add] at hx
  cases hk : lv[k]? with
  | none => rw [hk] at hx; cases hx
  | some o =>
    rw [hk] at hx
    have hx := Option.some.inj hx
    rw [hv] at hx
    by_cases e : k = i
    · subst e
      have : Nat.beq k k = true := Nat.beq_refl k
      rw [this] at hx
      cases hx
      exact h.2.2 (k, _) List.mem_cons_self
    · have e1 : Nat.beq k i = false := by
        cases hb : Nat.beq k i with
        | false => rfl
        | true => exact absurd (Nat.eq_of_beq_eq_true hb) e
      rw [e1] at hx
      simp only [cond_false, Bool.true_and] at hx
      cases ho : ((Nat.beq (k + 1) i && isLo o) || Nat.beq k (i + 1)) with
      | true => rw [ho] at hx; cases hx
      | false =>
        rw [ho] at hx
        simp only [cond_false] at hx
        subst hx
        have ⟨ho1, ho2⟩ := Bool.or_eq_false_iff.mp ho
        refine h.2.2 (k, cv b ad x) (List.mem_cons_of_mem _ (List.mem_filter.mpr ⟨lvp_mem hk, ?_⟩))
        simp only [cv_cat]
        have e2 : (k == i) = false := by simpa using e
        have e3 : (k == i + 1) = false := nbf ho2
        rw [e2, e3]
        simp only [Bool.not_false, Bool.true_and]
        cases h1 : Nat.beq (k + 1) i with
        | false =>
          have : (k + 1 == i) = false := nbf h1
          rw [this]; rfl
        | true =>
          rw [h1] at ho1
          have hx2 : isL x = false := by simpa [isLo] using ho1
          rw [hx2]
          simp
end
section
theorem go_iconst {M : Mth} {d : Nat} {al : Bool} {bc bs pc : Nat} {lv : List (Option AV)} {st : List AV} {w : List AC} {Q : Option AV → List AC → Prop} {n : Int} (v : Int32) (hd : decode (mB M) pc = .ok (.iconst n, 1)) (hv : Int32.ofInt n = v) (k : Go M d al bc bs (pc + 1) lv (vI v :: st) w Q) : Go M d al bc bs pc lv st w Q := by
  intro p l e R s m args below meth c Fin dC dI cy b ad A MC MS n0 fx H locs cells slots ls hc hs hw hS ha hl
  exact lv_iconst fx.1.1 fx.1.2 hd hv (k p l e R s m args below meth c Fin dC dI cy b ad A MC MS n0 fx H locs cells slots ls hc hs hw hS ha hl)

theorem go_bipush {M : Mth} {d : Nat} {al : Bool} {bc bs pc : Nat} {lv : List (Option AV)} {st : List AV} {w : List AC} {Q : Option AV → List AC → Prop} {n : Int} (v : Int32) (hd : decode (mB M) pc = .ok (.bipush n, 2)) (hv : (Int8.ofInt n).toInt32 = v) (k : Go M d al bc bs (pc + 2) lv (vI v :: st) w Q) : Go M d al bc bs pc lv st w Q := by
  intro p l e R s m args below meth c Fin dC dI cy b ad A MC MS n0 fx H locs cells slots ls hc hs hw hS ha hl
  exact lv_bipush fx.1.1 fx.1.2 hd hv (k p l e R s m args below meth c Fin dC dI cy b ad A MC MS n0 fx H locs cells slots ls hc hs hw hS ha hl)

theorem go_sipush {M : Mth} {d : Nat} {al : Bool} {bc bs pc : Nat} {lv : List (Option AV)} {st : List AV} {w : List AC} {Q : Option AV → List AC → Prop} {n : Int} (v : Int32) (hd : decode (mB M) pc = .ok (.sipush n, 3)) (hv : (Int16.ofInt n).toInt32 = v) (k : Go M d al bc bs (pc + 3) lv (vI v :: st) w Q) : Go M d al bc bs pc lv st w Q := by
  intro p l e R s m args below meth c Fin dC dI cy b ad A MC MS n0 fx H locs cells slots ls hc hs hw hS ha hl
  exact lv_sipush fx.1.1 fx.1.2 hd hv (k p l e R s m args below meth c Fin dC dI cy b ad A MC MS n0 fx H locs cells slots ls hc hs hw hS ha hl)

theorem go_lconst {M : Mth} {d : Nat} {al : Bool} {bc bs pc : Nat} {lv : List (Option AV)} {st : List AV} {w : List AC} {Q : Option AV → List AC → Prop} {n : Fin 2} (v : Int64) (hd : decode (mB M) pc = .ok (.lconst n, 1)) (hv : Int64.ofNat (n : Nat) = v) (k : Go M d al bc bs (pc + 1) lv (vL v :: st) w Q) : Go M d al bc bs pc lv st w Q := by
  intro p l e R s m args below meth c Fin dC dI cy b ad A MC MS n0 fx H locs cells slots ls hc hs hw hS ha hl
  exact lv_lconst fx.1.1 fx.1.2 hd hv (k p l e R s m args below meth c Fin dC dI cy b ad A MC MS n0 fx H locs cells slots ls hc hs hw hS ha hl)

theorem go_null {M : Mth} {d : Nat} {al : Bool} {bc bs pc : Nat} {lv : List (Option AV)} {st : List AV} {w : List AC} {Q : Option AV → List AC → Prop}  (hd : decode (mB M) pc = .ok (.aconst_null, 1)) (k : Go M d al bc bs (pc + 1) lv (vN :: st) w Q) : Go M d al bc bs pc lv st w Q := by
  intro p l e R s m args below meth c Fin dC dI cy b ad A MC MS n0 fx H locs cells slots ls hc hs hw hS ha hl
  exact lv_null fx.1.1 fx.1.2 hd (k p l e R s m args below meth c Fin dC dI cy b ad A MC MS n0 fx H locs cells slots ls hc hs hw hS ha hl)

theorem go_ldc {M : Mth} {d : Nat} {al : Bool} {bc bs pc : Nat} {lv : List (Option AV)} {st : List AV} {w : List AC} {Q : Option AV → List AC → Prop} {idx : Nat} (v : Int32) (hd : decode (mB M) pc = .ok (.ldc idx, 2)) (hv : Cond.constant (mO M) idx v ∈ tbG) (k : Go M d al bc bs (pc + 2) lv (vI v :: st) w Q) : Go M d al bc bs pc lv st w Q := by
  intro p l e R s m args below meth c Fin dC dI cy b ad A MC MS n0 fx H locs cells slots ls hc hs hw hS ha hl
  exact lv_ldc fx.1.1 fx.1.2 fx.2.1.2.2.1 (fx.2.2.1 _ hv) hd (k p l e R s m args below meth c Fin dC dI cy b ad A MC MS n0 fx H locs cells slots ls hc hs hw hS ha hl)

theorem go_ldcw {M : Mth} {d : Nat} {al : Bool} {bc bs pc : Nat} {lv : List (Option AV)} {st : List AV} {w : List AC} {Q : Option AV → List AC → Prop} {idx : Nat} (v : Int32) (hd : decode (mB M) pc = .ok (.ldc_w idx, 3)) (hv : Cond.constant (mO M) idx v ∈ tbG) (k : Go M d al bc bs (pc + 3) lv (vI v :: st) w Q) : Go M d al bc bs pc lv st w Q := by
  intro p l e R s m args below meth c Fin dC dI cy b ad A MC MS n0 fx H locs cells slots ls hc hs hw hS ha hl
  exact lv_ldcw fx.1.1 fx.1.2 fx.2.1.2.2.1 (fx.2.2.1 _ hv) hd (k p l e R s m args below meth c Fin dC dI cy b ad A MC MS n0 fx H locs cells slots ls hc hs hw hS ha hl)

theorem go_ldc2 {M : Mth} {d : Nat} {al : Bool} {bc bs pc : Nat} {lv : List (Option AV)} {st : List AV} {w : List AC} {Q : Option AV → List AC → Prop} {idx : Nat} (v : Int64) (hd : decode (mB M) pc = .ok (.ldc2_w idx, 3)) (hv : Cond.constantLong (mO M) idx v ∈ tbG) (k : Go M d al bc bs (pc + 3) lv (vL v :: st) w Q) : Go M d al bc bs pc lv st w Q := by
  intro p l e R s m args below meth c Fin dC dI cy b ad A MC MS n0 fx H locs cells slots ls hc hs hw hS ha hl
  exact lv_ldc2 fx.1.1 fx.1.2 fx.2.1.2.2.1 (fx.2.2.1 _ hv) hd (k p l e R s m args below meth c Fin dC dI cy b ad A MC MS n0 fx H locs cells slots ls hc hs hw hS ha hl)

theorem go_iload_n {M : Mth} {d : Nat} {al : Bool} {bc bs pc : Nat} {lv : List (Option AV)} {st : List AV} {w : List AC} {Q : Option AV → List AC → Prop} {k4 : Fin 4} (i : Nat) {x : Int32} (hd : decode (mB M) pc = .ok (.iload_n k4, 1)) (hi : (k4 : Nat) = i) (hx : lv[i]? = some (some (vI x))) (k : Go M d al bc bs (pc + 1) lv (vI x :: st) w Q) : Go M d al bc bs pc lv st w Q := by
  intro p l e R s m args below meth c Fin dC dI cy b ad A MC MS n0 fx H locs cells slots ls hc hs hw hS ha hl
  exact lv_iload_n fx.1.1 fx.1.2 hd hi (hl.2.2 i _ hx) (k p l e R s m args below meth c Fin dC dI cy b ad A MC MS n0 fx H locs cells slots ls hc hs hw hS ha hl)

theorem go_iload {M : Mth} {d : Nat} {al : Bool} {bc bs pc : Nat} {lv : List (Option AV)} {st : List AV} {w : List AC} {Q : Option AV → List AC → Prop} {i : Nat} {x : Int32} (hd : decode (mB M) pc = .ok (.iload i, 2)) (hx : lv[i]? = some (some (vI x))) (k : Go M d al bc bs (pc + 2) lv (vI x :: st) w Q) : Go M d al bc bs pc lv st w Q := by
  intro p l e R s m args below meth c Fin dC dI cy b ad A MC MS n0 fx H locs cells slots ls hc hs hw hS ha hl
  exact lv_iload fx.1.1 fx.1.2 hd (hl.2.2 i _ hx) (k p l e R s m args below meth c Fin dC dI cy b ad A MC MS n0 fx H locs cells slots ls hc hs hw hS ha hl)

theorem go_lload_n {M : Mth} {d : Nat} {al : Bool} {bc bs pc : Nat} {lv : List (Option AV)} {st : List AV} {w : List AC} {Q : Option AV → List AC → Prop} {k4 : Fin 4} (i : Nat) {x : Int64} (hd : decode (mB M) pc = .ok (.lload_n k4, 1)) (hi : (k4 : Nat) = i) (hx : lv[i]? = some (some (vL x))) (k : Go M d al bc bs (pc + 1) lv (vL x :: st) w Q) : Go M d al bc bs pc lv st w Q := by
  intro p l e R s m args below meth c Fin dC dI cy b ad A MC MS n0 fx H locs cells slots ls hc hs hw hS ha hl
  exact lv_lload_n fx.1.1 fx.1.2 hd hi (hl.2.2 i _ hx) (k p l e R s m args below meth c Fin dC dI cy b ad A MC MS n0 fx H locs cells slots ls hc hs hw hS ha hl)

theorem go_lload {M : Mth} {d : Nat} {al : Bool} {bc bs pc : Nat} {lv : List (Option AV)} {st : List AV} {w : List AC} {Q : Option AV → List AC → Prop} {i : Nat} {x : Int64} (hd : decode (mB M) pc = .ok (.lload i, 2)) (hx : lv[i]? = some (some (vL x))) (k : Go M d al bc bs (pc + 2) lv (vL x :: st) w Q) : Go M d al bc bs pc lv st w Q := by
  intro p l e R s m args below meth c Fin dC dI cy b ad A MC MS n0 fx H locs cells slots ls hc hs hw hS ha hl
  exact lv_lload fx.1.1 fx.1.2 hd (hl.2.2 i _ hx) (k p l e R s m args below meth c Fin dC dI cy b ad A MC MS n0 fx H locs cells slots ls hc hs hw hS ha hl)

theorem go_aload_n {M : Mth} {d : Nat} {al : Bool} {bc bs pc : Nat} {lv : List (Option AV)} {st : List AV} {w : List AC} {Q : Option AV → List AC → Prop} {k4 : Fin 4} (i : Nat) {r : Option Nat} (hd : decode (mB M) pc = .ok (.aload_n k4, 1)) (hi : (k4 : Nat) = i) (hx : lv[i]? = some (some (vQ r))) (k : Go M d al bc bs (pc + 1) lv (vQ r :: st) w Q) : Go M d al bc bs pc lv st w Q := by
  intro p l e R s m args below meth c Fin dC dI cy b ad A MC MS n0 fx H locs cells slots ls hc hs hw hS ha hl
  have hx := hl.2.2 i _ hx
  have k1 := (k p l e R s m args below meth c Fin dC dI cy b ad A MC MS n0 fx H locs cells slots ls hc hs hw hS ha hl)
  cases r with
  | none => exact lv_aload_nN fx.1.1 fx.1.2 hd hi hx k1
  | some a => exact lv_aload_n fx.1.1 fx.1.2 hd hi hx k1

theorem go_aload {M : Mth} {d : Nat} {al : Bool} {bc bs pc : Nat} {lv : List (Option AV)} {st : List AV} {w : List AC} {Q : Option AV → List AC → Prop} {i : Nat} {r : Option Nat} (hd : decode (mB M) pc = .ok (.aload i, 2)) (hx : lv[i]? = some (some (vQ r))) (k : Go M d al bc bs (pc + 2) lv (vQ r :: st) w Q) : Go M d al bc bs pc lv st w Q := by
  intro p l e R s m args below meth c Fin dC dI cy b ad A MC MS n0 fx H locs cells slots ls hc hs hw hS ha hl
  have hx := hl.2.2 i _ hx
  have k1 := (k p l e R s m args below meth c Fin dC dI cy b ad A MC MS n0 fx H locs cells slots ls hc hs hw hS ha hl)
  cases r with
  | none => exact lv_aloadN fx.1.1 fx.1.2 hd hx k1
  | some a => exact lv_aload fx.1.1 fx.1.2 hd hx k1

theorem go_sload_n {M : Mth} {d : Nat} {al : Bool} {bc bs pc : Nat} {lv : List (Option AV)} {st : List AV} {w : List AC} {Q : Option AV → List AC → Prop} {k4 : Fin 4} (i : Nat) (hd : decode (mB M) pc = .ok (.aload_n k4, 1)) (hi : (k4 : Nat) = i) (hx : lv[i]? = some (some vS)) (k : Go M d al bc bs (pc + 1) lv (vS :: st) w Q) : Go M d al bc bs pc lv st w Q := by
  intro p l e R s m args below meth c Fin dC dI cy b ad A MC MS n0 fx H locs cells slots ls hc hs hw hS ha hl
  exact lv_aload_n fx.1.1 fx.1.2 hd hi (hl.2.2 i _ hx) (k p l e R s m args below meth c Fin dC dI cy b ad A MC MS n0 fx H locs cells slots ls hc hs hw hS ha hl)

theorem go_istore_n {M : Mth} {d : Nat} {al : Bool} {bc bs pc : Nat} {lv : List (Option AV)} {st : List AV} {w : List AC} {Q : Option AV → List AC → Prop} {k4 : Fin 4} (i : Nat) {x : Int32} (lv' : List (Option AV)) (hd : decode (mB M) pc = .ok (.istore_n k4, 1)) (hi : (k4 : Nat) = i) (hn : i < mL M) (hx : lvs 0 lv i (vI x) = lv') (k : Go M d al bc bs (pc + 1) lv' st w Q) : Go M d al bc bs pc lv (vI x :: st) w Q := by
  intro p l e R s m args below meth c Fin dC dI cy b ad A MC MS n0 fx H locs cells slots ls hc hs hw hS ha hl
  subst hx
  exact lv_istore_n fx.1.1 fx.1.2 hd hi (lvp_has hl) hn rfl (fun ls' hl' => (k p l e R s m args below meth c Fin dC dI cy b ad A MC MS n0 fx H locs cells slots ls' hc hs hw hS ha (lvs_has1 (v := vI x) rfl hl')))

theorem go_istore {M : Mth} {d : Nat} {al : Bool} {bc bs pc : Nat} {lv : List (Option AV)} {st : List AV} {w : List AC} {Q : Option AV → List AC → Prop} {i : Nat} {x : Int32} (lv' : List (Option AV)) (hd : decode (mB M) pc = .ok (.istore i, 2)) (hn : i < mL M) (hx : lvs 0 lv i (vI x) = lv') (k : Go M d al bc bs (pc + 2) lv' st w Q) : Go M d al bc bs pc lv (vI x :: st) w Q := by
  intro p l e R s m args below meth c Fin dC dI cy b ad A MC MS n0 fx H locs cells slots ls hc hs hw hS ha hl
  subst hx
  exact lv_istore fx.1.1 fx.1.2 hd (lvp_has hl) hn rfl (fun ls' hl' => (k p l e R s m args below meth c Fin dC dI cy b ad A MC MS n0 fx H locs cells slots ls' hc hs hw hS ha (lvs_has1 (v := vI x) rfl hl')))

theorem go_lstore_n {M : Mth} {d : Nat} {al : Bool} {bc bs pc : Nat} {lv : List (Option AV)} {st : List AV} {w : List AC} {Q : Option AV → List AC → Prop} {k4 : Fin 4} (i : Nat) {x : Int64} (lv' : List (Option AV)) (hd : decode (mB M) pc = .ok (.lstore_n k4, 1)) (hi : (k4 : Nat) = i) (hn : i + 1 < mL M) (hx : lvs 0 lv i (vL x) = lv') (k : Go M d al bc bs (pc + 1) lv' st w Q) : Go M d al bc bs pc lv (vL x :: st) w Q := by
  intro p l e R s m args below meth c Fin dC dI cy b ad A MC MS n0 fx H locs cells slots ls hc hs hw hS ha hl
  subst hx
  exact lv_lstore_n fx.1.1 fx.1.2 hd hi (lvp_has hl) hn rfl (fun ls' hl' => (k p l e R s m args below meth c Fin dC dI cy b ad A MC MS n0 fx H locs cells slots ls' hc hs hw hS ha (lvs_has2 (v := vL x) rfl hl')))

theorem go_lstore {M : Mth} {d : Nat} {al : Bool} {bc bs pc : Nat} {lv : List (Option AV)} {st : List AV} {w : List AC} {Q : Option AV → List AC → Prop} {i : Nat} {x : Int64} (lv' : List (Option AV)) (hd : decode (mB M) pc = .ok (.lstore i, 2)) (hn : i + 1 < mL M) (hx : lvs 0 lv i (vL x) = lv') (k : Go M d al bc bs (pc + 2) lv' st w Q) : Go M d al bc bs pc lv (vL x :: st) w Q := by
  intro p l e R s m args below meth c Fin dC dI cy b ad A MC MS n0 fx H locs cells slots ls hc hs hw hS ha hl
  subst hx
  exact lv_lstore fx.1.1 fx.1.2 hd (lvp_has hl) hn rfl (fun ls' hl' => (k p l e R s m args below meth c Fin dC dI cy b ad A MC MS n0 fx H locs cells slots ls' hc hs hw hS ha (lvs_has2 (v := vL x) rfl hl')))

theorem go_astore_n {M : Mth} {d : Nat} {al : Bool} {bc bs pc : Nat} {lv : List (Option AV)} {st : List AV} {w : List AC} {Q : Option AV → List AC → Prop} {k4 : Fin 4} (i : Nat) {r : Option Nat} (lv' : List (Option AV)) (hd : decode (mB M) pc = .ok (.astore_n k4, 1)) (hi : (k4 : Nat) = i) (hn : i < mL M) (hx : lvs 0 lv i (vQ r) = lv') (k : Go M d al bc bs (pc + 1) lv' st w Q) : Go M d al bc bs pc lv (vQ r :: st) w Q := by
  intro p l e R s m args below meth c Fin dC dI cy b ad A MC MS n0 fx H locs cells slots ls hc hs hw hS ha hl
  subst hx
  have kk : ∀ ls' : Array Slot, lv_has ls' (mL M) ((i, cv b ad (vQ r)) :: (lvp b ad lv).filter (fun q => !(q.1 == i) && !(q.1 + 1 == i && q.2.category == 2))) → W p l e R s m args below meth c H locs cells slots Fin (F0 m (pc + 1) ls' (st.map (cv b ad))) := fun ls' hl' => (k p l e R s m args below meth c Fin dC dI cy b ad A MC MS n0 fx H locs cells slots ls' hc hs hw hS ha (lvs_has1 (v := vQ r) rfl hl'))
  cases r with
  | none => exact lv_astore_nN fx.1.1 fx.1.2 hd hi (lvp_has hl) hn rfl kk
  | some a => exact lv_astore_n fx.1.1 fx.1.2 hd hi (lvp_has hl) hn rfl kk

theorem go_astore {M : Mth} {d : Nat} {al : Bool} {bc bs pc : Nat} {lv : List (Option AV)} {st : List AV} {w : List AC} {Q : Option AV → List AC → Prop} {i : Nat} {r : Option Nat} (lv' : List (Option AV)) (hd : decode (mB M) pc = .ok (.astore i, 2)) (hn : i < mL M) (hx : lvs 0 lv i (vQ r) = lv') (k : Go M d al bc bs (pc + 2) lv' st w Q) : Go M d al bc bs pc lv (vQ r :: st) w Q := by
  intro p l e R s m args below meth c Fin dC dI cy b ad A MC MS n0 fx H locs cells slots ls hc hs hw hS ha hl
  subst hx
  have kk : ∀ ls' : Array Slot, lv_has ls' (mL M) ((i, cv b ad (vQ r)) :: (lvp b ad lv).filter (fun q => !(q.1 == i) && !(q.1 + 1 == i && q.2.category == 2))) → W p l e R s m args below meth c H locs cells slots Fin (F0 m (pc + 2) ls' (st.map (cv b ad))) := fun ls' hl' => (k p l e R s m args below meth c Fin dC dI cy b ad A MC MS n0 fx H locs cells slots ls' hc hs hw hS ha (lvs_has1 (v := vQ r) rfl hl'))
  cases r with
  | none => exact lv_astoreN fx.1.1 fx.1.2 hd (lvp_has hl) hn rfl kk
  | some a => exact lv_astore fx.1.1 fx.1.2 hd (lvp_has hl) hn rfl kk

theorem go_iinc {M : Mth} {d : Nat} {al : Bool} {bc bs pc : Nat} {lv : List (Option AV)} {st : List AV} {w : List AC} {Q : Option AV → List AC → Prop} {i : Nat} {n : Int} {x : Int32} (v : Int32) (lv' : List (Option AV)) (hd : decode (mB M) pc = .ok (.iinc i n, 3)) (hx : lv[i]? = some (some (vI x))) (hv : x + Int32.ofInt n = v) (hn : i < mL M) (hl' : lvs 0 lv i (vI v) = lv') (k : Go M d al bc bs (pc + 3) lv' st w Q) : Go M d al bc bs pc lv st w Q := by
  intro p l e R s m args below meth c Fin dC dI cy b ad A MC MS n0 fx H locs cells slots ls hc hs hw hS ha hl
  subst hl'
  obtain ⟨k0, hk0⟩ := List.getElem?_of_mem (lvp_mem (b := b) (ad := ad) hx)
  exact lv_iinc fx.1.1 fx.1.2 hd (lvp_has hl) hk0 hv hn rfl (fun ls' hl' => (k p l e R s m args below meth c Fin dC dI cy b ad A MC MS n0 fx H locs cells slots ls' hc hs hw hS ha (lvs_has1 (v := vI v) rfl hl')))

theorem go_iadd {M : Mth} {d : Nat} {al : Bool} {bc bs pc : Nat} {lv : List (Option AV)} {st : List AV} {w : List AC} {Q : Option AV → List AC → Prop} {x y : Int32} (hd : decode (mB M) pc = .ok (.iadd, 1)) (k : Go M d al bc bs (pc + 1) lv (vI (x + y) :: st) w Q) : Go M d al bc bs pc lv (vI y :: vI x :: st) w Q := by
  intro p l e R s m args below meth c Fin dC dI cy b ad A MC MS n0 fx H locs cells slots ls hc hs hw hS ha hl
  exact lv_iadd fx.1.1 fx.1.2 hd (k p l e R s m args below meth c Fin dC dI cy b ad A MC MS n0 fx H locs cells slots ls hc hs hw hS ha hl)

theorem go_isub {M : Mth} {d : Nat} {al : Bool} {bc bs pc : Nat} {lv : List (Option AV)} {st : List AV} {w : List AC} {Q : Option AV → List AC → Prop} {x y : Int32} (hd : decode (mB M) pc = .ok (.isub, 1)) (k : Go M d al bc bs (pc + 1) lv (vI (x - y) :: st) w Q) : Go M d al bc bs pc lv (vI y :: vI x :: st) w Q := by
  intro p l e R s m args below meth c Fin dC dI cy b ad A MC MS n0 fx H locs cells slots ls hc hs hw hS ha hl
  exact lv_isub fx.1.1 fx.1.2 hd (k p l e R s m args below meth c Fin dC dI cy b ad A MC MS n0 fx H locs cells slots ls hc hs hw hS ha hl)

theorem go_imul {M : Mth} {d : Nat} {al : Bool} {bc bs pc : Nat} {lv : List (Option AV)} {st : List AV} {w : List AC} {Q : Option AV → List AC → Prop} {x y : Int32} (hd : decode (mB M) pc = .ok (.imul, 1)) (k : Go M d al bc bs (pc + 1) lv (vI (x * y) :: st) w Q) : Go M d al bc bs pc lv (vI y :: vI x :: st) w Q := by
  intro p l e R s m args below meth c Fin dC dI cy b ad A MC MS n0 fx H locs cells slots ls hc hs hw hS ha hl
  exact lv_imul fx.1.1 fx.1.2 hd (k p l e R s m args below meth c Fin dC dI cy b ad A MC MS n0 fx H locs cells slots ls hc hs hw hS ha hl)

theorem go_iand {M : Mth} {d : Nat} {al : Bool} {bc bs pc : Nat} {lv : List (Option AV)} {st : List AV} {w : List AC} {Q : Option AV → List AC → Prop} {x y : Int32} (hd : decode (mB M) pc = .ok (.iand, 1)) (k : Go M d al bc bs (pc + 1) lv (vI (x &&& y) :: st) w Q) : Go M d al bc bs pc lv (vI y :: vI x :: st) w Q := by
  intro p l e R s m args below meth c Fin dC dI cy b ad A MC MS n0 fx H locs cells slots ls hc hs hw hS ha hl
  exact lv_iand fx.1.1 fx.1.2 hd (k p l e R s m args below meth c Fin dC dI cy b ad A MC MS n0 fx H locs cells slots ls hc hs hw hS ha hl)

theorem go_ior {M : Mth} {d : Nat} {al : Bool} {bc bs pc : Nat} {lv : List (Option AV)} {st : List AV} {w : List AC} {Q : Option AV → List AC → Prop} {x y : Int32} (hd : decode (mB M) pc = .ok (.ior, 1)) (k : Go M d al bc bs (pc + 1) lv (vI (x ||| y) :: st) w Q) : Go M d al bc bs pc lv (vI y :: vI x :: st) w Q := by
  intro p l e R s m args below meth c Fin dC dI cy b ad A MC MS n0 fx H locs cells slots ls hc hs hw hS ha hl
  exact lv_ior fx.1.1 fx.1.2 hd (k p l e R s m args below meth c Fin dC dI cy b ad A MC MS n0 fx H locs cells slots ls hc hs hw hS ha hl)

theorem go_ixor {M : Mth} {d : Nat} {al : Bool} {bc bs pc : Nat} {lv : List (Option AV)} {st : List AV} {w : List AC} {Q : Option AV → List AC → Prop} {x y : Int32} (hd : decode (mB M) pc = .ok (.ixor, 1)) (k : Go M d al bc bs (pc + 1) lv (vI (x ^^^ y) :: st) w Q) : Go M d al bc bs pc lv (vI y :: vI x :: st) w Q := by
  intro p l e R s m args below meth c Fin dC dI cy b ad A MC MS n0 fx H locs cells slots ls hc hs hw hS ha hl
  exact lv_ixor fx.1.1 fx.1.2 hd (k p l e R s m args below meth c Fin dC dI cy b ad A MC MS n0 fx H locs cells slots ls hc hs hw hS ha hl)

theorem go_ishl {M : Mth} {d : Nat} {al : Bool} {bc bs pc : Nat} {lv : List (Option AV)} {st : List AV} {w : List AC} {Q : Option AV → List AC → Prop} {x y : Int32} (hd : decode (mB M) pc = .ok (.ishl, 1)) (k : Go M d al bc bs (pc + 1) lv (vI (x <<< (y &&& 31)) :: st) w Q) : Go M d al bc bs pc lv (vI y :: vI x :: st) w Q := by
  intro p l e R s m args below meth c Fin dC dI cy b ad A MC MS n0 fx H locs cells slots ls hc hs hw hS ha hl
  exact lv_ishl fx.1.1 fx.1.2 hd (k p l e R s m args below meth c Fin dC dI cy b ad A MC MS n0 fx H locs cells slots ls hc hs hw hS ha hl)

theorem go_ishr {M : Mth} {d : Nat} {al : Bool} {bc bs pc : Nat} {lv : List (Option AV)} {st : List AV} {w : List AC} {Q : Option AV → List AC → Prop} {x y : Int32} (hd : decode (mB M) pc = .ok (.ishr, 1)) (k : Go M d al bc bs (pc + 1) lv (vI (x >>> (y &&& 31)) :: st) w Q) : Go M d al bc bs pc lv (vI y :: vI x :: st) w Q := by
  intro p l e R s m args below meth c Fin dC dI cy b ad A MC MS n0 fx H locs cells slots ls hc hs hw hS ha hl
  exact lv_ishr fx.1.1 fx.1.2 hd (k p l e R s m args below meth c Fin dC dI cy b ad A MC MS n0 fx H locs cells slots ls hc hs hw hS ha hl)

theorem go_idiv {M : Mth} {d : Nat} {al : Bool} {bc bs pc : Nat} {lv : List (Option AV)} {st : List AV} {w : List AC} {Q : Option AV → List AC → Prop} {x y : Int32} (hd : decode (mB M) pc = .ok (.idiv, 1)) (hne : ¬ y = 0) (k : Go M d al bc bs (pc + 1) lv (vI (x / y) :: st) w Q) : Go M d al bc bs pc lv (vI y :: vI x :: st) w Q := by
  intro p l e R s m args below meth c Fin dC dI cy b ad A MC MS n0 fx H locs cells slots ls hc hs hw hS ha hl
  exact lv_idiv fx.1.1 fx.1.2 hd hne (k p l e R s m args below meth c Fin dC dI cy b ad A MC MS n0 fx H locs cells slots ls hc hs hw hS ha hl)

theorem go_irem {M : Mth} {d : Nat} {al : Bool} {bc bs pc : Nat} {lv : List (Option AV)} {st : List AV} {w : List AC} {Q : Option AV → List AC → Prop} {x y : Int32} (hd : decode (mB M) pc = .ok (.irem, 1)) (hne : ¬ y = 0) (k : Go M d al bc bs (pc + 1) lv (vI (x - x / y * y) :: st) w Q) : Go M d al bc bs pc lv (vI y :: vI x :: st) w Q := by
  intro p l e R s m args below meth c Fin dC dI cy b ad A MC MS n0 fx H locs cells slots ls hc hs hw hS ha hl
  exact lv_irem fx.1.1 fx.1.2 hd hne (k p l e R s m args below meth c Fin dC dI cy b ad A MC MS n0 fx H locs cells slots ls hc hs hw hS ha hl)

theorem go_ladd {M : Mth} {d : Nat} {al : Bool} {bc bs pc : Nat} {lv : List (Option AV)} {st : List AV} {w : List AC} {Q : Option AV → List AC → Prop} {x y : Int64} (hd : decode (mB M) pc = .ok (.ladd, 1)) (k : Go M d al bc bs (pc + 1) lv (vL (x + y) :: st) w Q) : Go M d al bc bs pc lv (vL y :: vL x :: st) w Q := by
  intro p l e R s m args below meth c Fin dC dI cy b ad A MC MS n0 fx H locs cells slots ls hc hs hw hS ha hl
  exact lv_ladd fx.1.1 fx.1.2 hd (k p l e R s m args below meth c Fin dC dI cy b ad A MC MS n0 fx H locs cells slots ls hc hs hw hS ha hl)

theorem go_lsub {M : Mth} {d : Nat} {al : Bool} {bc bs pc : Nat} {lv : List (Option AV)} {st : List AV} {w : List AC} {Q : Option AV → List AC → Prop} {x y : Int64} (hd : decode (mB M) pc = .ok (.lsub, 1)) (k : Go M d al bc bs (pc + 1) lv (vL (x - y) :: st) w Q) : Go M d al bc bs pc lv (vL y :: vL x :: st) w Q := by
  intro p l e R s m args below meth c Fin dC dI cy b ad A MC MS n0 fx H locs cells slots ls hc hs hw hS ha hl
  exact lv_lsub fx.1.1 fx.1.2 hd (k p l e R s m args below meth c Fin dC dI cy b ad A MC MS n0 fx H locs cells slots ls hc hs hw hS ha hl)

theorem go_lmul {M : Mth} {d : Nat} {al : Bool} {bc bs pc : Nat} {lv : List (Option AV)} {st : List AV} {w : List AC} {Q : Option AV → List AC → Prop} {x y : Int64} (hd : decode (mB M) pc = .ok (.lmul, 1)) (k : Go M d al bc bs (pc + 1) lv (vL (x * y) :: st) w Q) : Go M d al bc bs pc lv (vL y :: vL x :: st) w Q := by
  intro p l e R s m args below meth c Fin dC dI cy b ad A MC MS n0 fx H locs cells slots ls hc hs hw hS ha hl
  exact lv_lmul fx.1.1 fx.1.2 hd (k p l e R s m args below meth c Fin dC dI cy b ad A MC MS n0 fx H locs cells slots ls hc hs hw hS ha hl)

theorem go_land {M : Mth} {d : Nat} {al : Bool} {bc bs pc : Nat} {lv : List (Option AV)} {st : List AV} {w : List AC} {Q : Option AV → List AC → Prop} {x y : Int64} (hd : decode (mB M) pc = .ok (.land, 1)) (k : Go M d al bc bs (pc + 1) lv (vL (x &&& y) :: st) w Q) : Go M d al bc bs pc lv (vL y :: vL x :: st) w Q := by
  intro p l e R s m args below meth c Fin dC dI cy b ad A MC MS n0 fx H locs cells slots ls hc hs hw hS ha hl
  exact lv_land fx.1.1 fx.1.2 hd (k p l e R s m args below meth c Fin dC dI cy b ad A MC MS n0 fx H locs cells slots ls hc hs hw hS ha hl)

theorem go_lor {M : Mth} {d : Nat} {al : Bool} {bc bs pc : Nat} {lv : List (Option AV)} {st : List AV} {w : List AC} {Q : Option AV → List AC → Prop} {x y : Int64} (hd : decode (mB M) pc = .ok (.lor, 1)) (k : Go M d al bc bs (pc + 1) lv (vL (x ||| y) :: st) w Q) : Go M d al bc bs pc lv (vL y :: vL x :: st) w Q := by
  intro p l e R s m args below meth c Fin dC dI cy b ad A MC MS n0 fx H locs cells slots ls hc hs hw hS ha hl
  exact lv_lor fx.1.1 fx.1.2 hd (k p l e R s m args below meth c Fin dC dI cy b ad A MC MS n0 fx H locs cells slots ls hc hs hw hS ha hl)

theorem go_lxor {M : Mth} {d : Nat} {al : Bool} {bc bs pc : Nat} {lv : List (Option AV)} {st : List AV} {w : List AC} {Q : Option AV → List AC → Prop} {x y : Int64} (hd : decode (mB M) pc = .ok (.lxor, 1)) (k : Go M d al bc bs (pc + 1) lv (vL (x ^^^ y) :: st) w Q) : Go M d al bc bs pc lv (vL y :: vL x :: st) w Q := by
  intro p l e R s m args below meth c Fin dC dI cy b ad A MC MS n0 fx H locs cells slots ls hc hs hw hS ha hl
  exact lv_lxor fx.1.1 fx.1.2 hd (k p l e R s m args below meth c Fin dC dI cy b ad A MC MS n0 fx H locs cells slots ls hc hs hw hS ha hl)

theorem go_ldiv {M : Mth} {d : Nat} {al : Bool} {bc bs pc : Nat} {lv : List (Option AV)} {st : List AV} {w : List AC} {Q : Option AV → List AC → Prop} {x y : Int64} (hd : decode (mB M) pc = .ok (.ldiv, 1)) (hne : ¬ y = 0) (k : Go M d al bc bs (pc + 1) lv (vL (x / y) :: st) w Q) : Go M d al bc bs pc lv (vL y :: vL x :: st) w Q := by
  intro p l e R s m args below meth c Fin dC dI cy b ad A MC MS n0 fx H locs cells slots ls hc hs hw hS ha hl
  exact lv_ldiv fx.1.1 fx.1.2 hd hne (k p l e R s m args below meth c Fin dC dI cy b ad A MC MS n0 fx H locs cells slots ls hc hs hw hS ha hl)

theorem go_lrem {M : Mth} {d : Nat} {al : Bool} {bc bs pc : Nat} {lv : List (Option AV)} {st : List AV} {w : List AC} {Q : Option AV → List AC → Prop} {x y : Int64} (hd : decode (mB M) pc = .ok (.lrem, 1)) (hne : ¬ y = 0) (k : Go M d al bc bs (pc + 1) lv (vL (x - x / y * y) :: st) w Q) : Go M d al bc bs pc lv (vL y :: vL x :: st) w Q := by
  intro p l e R s m args below meth c Fin dC dI cy b ad A MC MS n0 fx H locs cells slots ls hc hs hw hS ha hl
  exact lv_lrem fx.1.1 fx.1.2 hd hne (k p l e R s m args below meth c Fin dC dI cy b ad A MC MS n0 fx H locs cells slots ls hc hs hw hS ha hl)

theorem go_ineg {M : Mth} {d : Nat} {al : Bool} {bc bs pc : Nat} {lv : List (Option AV)} {st : List AV} {w : List AC} {Q : Option AV → List AC → Prop} {x : Int32} (hd : decode (mB M) pc = .ok (.ineg, 1)) (k : Go M d al bc bs (pc + 1) lv (vI (-x) :: st) w Q) : Go M d al bc bs pc lv (vI x :: st) w Q := by
  intro p l e R s m args below meth c Fin dC dI cy b ad A MC MS n0 fx H locs cells slots ls hc hs hw hS ha hl
  exact lv_ineg fx.1.1 fx.1.2 hd (k p l e R s m args below meth c Fin dC dI cy b ad A MC MS n0 fx H locs cells slots ls hc hs hw hS ha hl)

theorem go_lneg {M : Mth} {d : Nat} {al : Bool} {bc bs pc : Nat} {lv : List (Option AV)} {st : List AV} {w : List AC} {Q : Option AV → List AC → Prop} {x : Int64} (hd : decode (mB M) pc = .ok (.lneg, 1)) (k : Go M d al bc bs (pc + 1) lv (vL (-x) :: st) w Q) : Go M d al bc bs pc lv (vL x :: st) w Q := by
  intro p l e R s m args below meth c Fin dC dI cy b ad A MC MS n0 fx H locs cells slots ls hc hs hw hS ha hl
  exact lv_lneg fx.1.1 fx.1.2 hd (k p l e R s m args below meth c Fin dC dI cy b ad A MC MS n0 fx H locs cells slots ls hc hs hw hS ha hl)

theorem go_i2l {M : Mth} {d : Nat} {al : Bool} {bc bs pc : Nat} {lv : List (Option AV)} {st : List AV} {w : List AC} {Q : Option AV → List AC → Prop} {x : Int32} (hd : decode (mB M) pc = .ok (.i2l, 1)) (k : Go M d al bc bs (pc + 1) lv (vL x.toInt64 :: st) w Q) : Go M d al bc bs pc lv (vI x :: st) w Q := by
  intro p l e R s m args below meth c Fin dC dI cy b ad A MC MS n0 fx H locs cells slots ls hc hs hw hS ha hl
  exact lv_i2l fx.1.1 fx.1.2 hd rfl (k p l e R s m args below meth c Fin dC dI cy b ad A MC MS n0 fx H locs cells slots ls hc hs hw hS ha hl)

theorem go_l2i {M : Mth} {d : Nat} {al : Bool} {bc bs pc : Nat} {lv : List (Option AV)} {st : List AV} {w : List AC} {Q : Option AV → List AC → Prop} {x : Int64} (hd : decode (mB M) pc = .ok (.l2i, 1)) (k : Go M d al bc bs (pc + 1) lv (vI x.toInt32 :: st) w Q) : Go M d al bc bs pc lv (vL x :: st) w Q := by
  intro p l e R s m args below meth c Fin dC dI cy b ad A MC MS n0 fx H locs cells slots ls hc hs hw hS ha hl
  exact lv_l2i fx.1.1 fx.1.2 hd rfl (k p l e R s m args below meth c Fin dC dI cy b ad A MC MS n0 fx H locs cells slots ls hc hs hw hS ha hl)

theorem go_iushr {M : Mth} {d : Nat} {al : Bool} {bc bs pc : Nat} {lv : List (Option AV)} {st : List AV} {w : List AC} {Q : Option AV → List AC → Prop} {x y : Int32} (hd : decode (mB M) pc = .ok (.iushr, 1)) (k : Go M d al bc bs (pc + 1) lv (vI ((x.toUInt32 >>> (y.toUInt32 &&& Int32.toUInt32 31)).toInt32) :: st) w Q) : Go M d al bc bs pc lv (vI y :: vI x :: st) w Q := by
  intro p l e R s m args below meth c Fin dC dI cy b ad A MC MS n0 fx H locs cells slots ls hc hs hw hS ha hl
  exact lv_iushr fx.1.1 fx.1.2 hd rfl (k p l e R s m args below meth c Fin dC dI cy b ad A MC MS n0 fx H locs cells slots ls hc hs hw hS ha hl)

theorem go_lushr {M : Mth} {d : Nat} {al : Bool} {bc bs pc : Nat} {lv : List (Option AV)} {st : List AV} {w : List AC} {Q : Option AV → List AC → Prop} {x : Int64} {y : Int32} (hd : decode (mB M) pc = .ok (.lushr, 1)) (k : Go M d al bc bs (pc + 1) lv (vL ((x.toUInt64 >>> (y.toInt64.toUInt64 &&& Int64.toUInt64 63)).toInt64) :: st) w Q) : Go M d al bc bs pc lv (vI y :: vL x :: st) w Q := by
  intro p l e R s m args below meth c Fin dC dI cy b ad A MC MS n0 fx H locs cells slots ls hc hs hw hS ha hl
  exact lv_lushr fx.1.1 fx.1.2 hd rfl (k p l e R s m args below meth c Fin dC dI cy b ad A MC MS n0 fx H locs cells slots ls hc hs hw hS ha hl)

theorem go_lshl {M : Mth} {d : Nat} {al : Bool} {bc bs pc : Nat} {lv : List (Option AV)} {st : List AV} {w : List AC} {Q : Option AV → List AC → Prop} {x : Int64} {y : Int32} (hd : decode (mB M) pc = .ok (.lshl, 1)) (k : Go M d al bc bs (pc + 1) lv (vL (x <<< (y.toInt64 &&& 63)) :: st) w Q) : Go M d al bc bs pc lv (vI y :: vL x :: st) w Q := by
  intro p l e R s m args below meth c Fin dC dI cy b ad A MC MS n0 fx H locs cells slots ls hc hs hw hS ha hl
  exact lv_lshl fx.1.1 fx.1.2 hd rfl (k p l e R s m args below meth c Fin dC dI cy b ad A MC MS n0 fx H locs cells slots ls hc hs hw hS ha hl)

theorem go_lshr {M : Mth} {d : Nat} {al : Bool} {bc bs pc : Nat} {lv : List (Option AV)} {st : List AV} {w : List AC} {Q : Option AV → List AC → Prop} {x : Int64} {y : Int32} (hd : decode (mB M) pc = .ok (.lshr, 1)) (k : Go M d al bc bs (pc + 1) lv (vL (x >>> (y.toInt64 &&& 63)) :: st) w Q) : Go M d al bc bs pc lv (vI y :: vL x :: st) w Q := by
  intro p l e R s m args below meth c Fin dC dI cy b ad A MC MS n0 fx H locs cells slots ls hc hs hw hS ha hl
  exact lv_lshr fx.1.1 fx.1.2 hd rfl (k p l e R s m args below meth c Fin dC dI cy b ad A MC MS n0 fx H locs cells slots ls hc hs hw hS ha hl)

theorem go_lcmp {M : Mth} {d : Nat} {al : Bool} {bc bs pc : Nat} {lv : List (Option AV)} {st : List AV} {w : List AC} {Q : Option AV → List AC → Prop} {x y : Int64} (hd : decode (mB M) pc = .ok (.lcmp, 1)) (k : Go M d al bc bs (pc + 1) lv (vI (lg_cmp x y) :: st) w Q) : Go M d al bc bs pc lv (vL y :: vL x :: st) w Q := by
  intro p l e R s m args below meth c Fin dC dI cy b ad A MC MS n0 fx H locs cells slots ls hc hs hw hS ha hl
  exact W.lcmp fx.1.1 fx.1.2 hd (k p l e R s m args below meth c Fin dC dI cy b ad A MC MS n0 fx H locs cells slots ls hc hs hw hS ha hl)

theorem go_dup {M : Mth} {d : Nat} {al : Bool} {bc bs pc : Nat} {lv : List (Option AV)} {st : List AV} {w : List AC} {Q : Option AV → List AC → Prop} {v : AV} (hd : decode (mB M) pc = .ok (.dup, 1)) (hv : isL v = false) (k : Go M d al bc bs (pc + 1) lv (v :: v :: st) w Q) : Go M d al bc bs pc lv (v :: st) w Q := by
  intro p l e R s m args below meth c Fin dC dI cy b ad A MC MS n0 fx H locs cells slots ls hc hs hw hS ha hl
  exact lv_dup fx.1.1 fx.1.2 hd (by rw [cv_cat, hv]; rfl) (k p l e R s m args below meth c Fin dC dI cy b ad A MC MS n0 fx H locs cells slots ls hc hs hw hS ha hl)

theorem go_pop {M : Mth} {d : Nat} {al : Bool} {bc bs pc : Nat} {lv : List (Option AV)} {st : List AV} {w : List AC} {Q : Option AV → List AC → Prop} {v : AV} (hd : decode (mB M) pc = .ok (.pop, 1)) (hv : isL v = false) (k : Go M d al bc bs (pc + 1) lv st w Q) : Go M d al bc bs pc lv (v :: st) w Q := by
  intro p l e R s m args below meth c Fin dC dI cy b ad A MC MS n0 fx H locs cells slots ls hc hs hw hS ha hl
  exact lv_pop fx.1.1 fx.1.2 hd (by rw [cv_cat, hv]; rfl) (k p l e R s m args below meth c Fin dC dI cy b ad A MC MS n0 fx H locs cells slots ls hc hs hw hS ha hl)

theorem go_dup2 {M : Mth} {d : Nat} {al : Bool} {bc bs pc : Nat} {lv : List (Option AV)} {st : List AV} {w : List AC} {Q : Option AV → List AC → Prop} {v u : AV} (hd : decode (mB M) pc = .ok (.dup2, 1)) (hv : isL v = false) (hu : isL u = false) (k : Go M d al bc bs (pc + 1) lv (v :: u :: v :: u :: st) w Q) : Go M d al bc bs pc lv (v :: u :: st) w Q := by
  intro p l e R s m args below meth c Fin dC dI cy b ad A MC MS n0 fx H locs cells slots ls hc hs hw hS ha hl
  exact lv_dup2_11 fx.1.1 fx.1.2 hd (by rw [cv_cat, hv]; rfl) (by rw [cv_cat, hu]; rfl) (k p l e R s m args below meth c Fin dC dI cy b ad A MC MS n0 fx H locs cells slots ls hc hs hw hS ha hl)

theorem go_dup2L {M : Mth} {d : Nat} {al : Bool} {bc bs pc : Nat} {lv : List (Option AV)} {st : List AV} {w : List AC} {Q : Option AV → List AC → Prop} {v : AV} (hd : decode (mB M) pc = .ok (.dup2, 1)) (hv : isL v = true) (k : Go M d al bc bs (pc + 1) lv (v :: v :: st) w Q) : Go M d al bc bs pc lv (v :: st) w Q := by
  intro p l e R s m args below meth c Fin dC dI cy b ad A MC MS n0 fx H locs cells slots ls hc hs hw hS ha hl
  exact lv_dup2_2 fx.1.1 fx.1.2 hd (by rw [cv_cat, hv]; rfl) (k p l e R s m args below meth c Fin dC dI cy b ad A MC MS n0 fx H locs cells slots ls hc hs hw hS ha hl)

theorem go_if_eq {M : Mth} {d : Nat} {al : Bool} {bc bs pc : Nat} {lv : List (Option AV)} {st : List AV} {w : List AC} {Q : Option AV → List AC → Prop} {x : Int32} {off : Int} (tgt : Nat) (hd : decode (mB M) pc = .ok (.ifCond .eq off, 3)) (ht : (pc : Int) + off = (tgt : Int)) (kt : x = 0 → Go M d al bc bs tgt lv st w Q) (kf : ¬ x = 0 → Go M d al bc bs (pc + 3) lv st w Q) : Go M d al bc bs pc lv (vI x :: st) w Q := by
  intro p l e R s m args below meth c Fin dC dI cy b ad A MC MS n0 fx H locs cells slots ls hc hs hw hS ha hl
  exact lv_if_eq fx.1.1 fx.1.2 hd ht (fun h => (kt h p l e R s m args below meth c Fin dC dI cy b ad A MC MS n0 fx H locs cells slots ls hc hs hw hS ha hl)) (fun h => (kf h p l e R s m args below meth c Fin dC dI cy b ad A MC MS n0 fx H locs cells slots ls hc hs hw hS ha hl))

theorem go_icmp_eq {M : Mth} {d : Nat} {al : Bool} {bc bs pc : Nat} {lv : List (Option AV)} {st : List AV} {w : List AC} {Q : Option AV → List AC → Prop} {x y : Int32} {off : Int} (tgt : Nat) (hd : decode (mB M) pc = .ok (.if_icmp .eq off, 3)) (ht : (pc : Int) + off = (tgt : Int)) (kt : x = y → Go M d al bc bs tgt lv st w Q) (kf : ¬ x = y → Go M d al bc bs (pc + 3) lv st w Q) : Go M d al bc bs pc lv (vI y :: vI x :: st) w Q := by
  intro p l e R s m args below meth c Fin dC dI cy b ad A MC MS n0 fx H locs cells slots ls hc hs hw hS ha hl
  exact lv_icmp_eq fx.1.1 fx.1.2 hd ht (fun h => (kt h p l e R s m args below meth c Fin dC dI cy b ad A MC MS n0 fx H locs cells slots ls hc hs hw hS ha hl)) (fun h => (kf h p l e R s m args below meth c Fin dC dI cy b ad A MC MS n0 fx H locs cells slots ls hc hs hw hS ha hl))

theorem go_if_ne {M : Mth} {d : Nat} {al : Bool} {bc bs pc : Nat} {lv : List (Option AV)} {st : List AV} {w : List AC} {Q : Option AV → List AC → Prop} {x : Int32} {off : Int} (tgt : Nat) (hd : decode (mB M) pc = .ok (.ifCond .ne off, 3)) (ht : (pc : Int) + off = (tgt : Int)) (kt : ¬ x = 0 → Go M d al bc bs tgt lv st w Q) (kf : x = 0 → Go M d al bc bs (pc + 3) lv st w Q) : Go M d al bc bs pc lv (vI x :: st) w Q := by
  intro p l e R s m args below meth c Fin dC dI cy b ad A MC MS n0 fx H locs cells slots ls hc hs hw hS ha hl
  exact lv_if_ne fx.1.1 fx.1.2 hd ht (fun h => (kt h p l e R s m args below meth c Fin dC dI cy b ad A MC MS n0 fx H locs cells slots ls hc hs hw hS ha hl)) (fun h => (kf h p l e R s m args below meth c Fin dC dI cy b ad A MC MS n0 fx H locs cells slots ls hc hs hw hS ha hl))

theorem go_icmp_ne {M : Mth} {d : Nat} {al : Bool} {bc bs pc : Nat} {lv : List (Option AV)} {st : List AV} {w : List AC} {Q : Option AV → List AC → Prop} {x y : Int32} {off : Int} (tgt : Nat) (hd : decode (mB M) pc = .ok (.if_icmp .ne off, 3)) (ht : (pc : Int) + off = (tgt : Int)) (kt : ¬ x = y → Go M d al bc bs tgt lv st w Q) (kf : x = y → Go M d al bc bs (pc + 3) lv st w Q) : Go M d al bc bs pc lv (vI y :: vI x :: st) w Q := by
  intro p l e R s m args below meth c Fin dC dI cy b ad A MC MS n0 fx H locs cells slots ls hc hs hw hS ha hl
  exact lv_icmp_ne fx.1.1 fx.1.2 hd ht (fun h => (kt h p l e R s m args below meth c Fin dC dI cy b ad A MC MS n0 fx H locs cells slots ls hc hs hw hS ha hl)) (fun h => (kf h p l e R s m args below meth c Fin dC dI cy b ad A MC MS n0 fx H locs cells slots ls hc hs hw hS ha hl))

theorem go_if_lt {M : Mth} {d : Nat} {al : Bool} {bc bs pc : Nat} {lv : List (Option AV)} {st : List AV} {w : List AC} {Q : Option AV → List AC → Prop} {x : Int32} {off : Int} (tgt : Nat) (hd : decode (mB M) pc = .ok (.ifCond .lt off, 3)) (ht : (pc : Int) + off = (tgt : Int)) (kt : x < 0 → Go M d al bc bs tgt lv st w Q) (kf : ¬ x < 0 → Go M d al bc bs (pc + 3) lv st w Q) : Go M d al bc bs pc lv (vI x :: st) w Q := by
  intro p l e R s m args below meth c Fin dC dI cy b ad A MC MS n0 fx H locs cells slots ls hc hs hw hS ha hl
  exact lv_if_lt fx.1.1 fx.1.2 hd ht (fun h => (kt h p l e R s m args below meth c Fin dC dI cy b ad A MC MS n0 fx H locs cells slots ls hc hs hw hS ha hl)) (fun h => (kf h p l e R s m args below meth c Fin dC dI cy b ad A MC MS n0 fx H locs cells slots ls hc hs hw hS ha hl))

theorem go_icmp_lt {M : Mth} {d : Nat} {al : Bool} {bc bs pc : Nat} {lv : List (Option AV)} {st : List AV} {w : List AC} {Q : Option AV → List AC → Prop} {x y : Int32} {off : Int} (tgt : Nat) (hd : decode (mB M) pc = .ok (.if_icmp .lt off, 3)) (ht : (pc : Int) + off = (tgt : Int)) (kt : x < y → Go M d al bc bs tgt lv st w Q) (kf : ¬ x < y → Go M d al bc bs (pc + 3) lv st w Q) : Go M d al bc bs pc lv (vI y :: vI x :: st) w Q := by
  intro p l e R s m args below meth c Fin dC dI cy b ad A MC MS n0 fx H locs cells slots ls hc hs hw hS ha hl
  exact lv_icmp_lt fx.1.1 fx.1.2 hd ht (fun h => (kt h p l e R s m args below meth c Fin dC dI cy b ad A MC MS n0 fx H locs cells slots ls hc hs hw hS ha hl)) (fun h => (kf h p l e R s m args below meth c Fin dC dI cy b ad A MC MS n0 fx H locs cells slots ls hc hs hw hS ha hl))

theorem go_if_ge {M : Mth} {d : Nat} {al : Bool} {bc bs pc : Nat} {lv : List (Option AV)} {st : List AV} {w : List AC} {Q : Option AV → List AC → Prop} {x : Int32} {off : Int} (tgt : Nat) (hd : decode (mB M) pc = .ok (.ifCond .ge off, 3)) (ht : (pc : Int) + off = (tgt : Int)) (kt : 0 ≤ x → Go M d al bc bs tgt lv st w Q) (kf : ¬ 0 ≤ x → Go M d al bc bs (pc + 3) lv st w Q) : Go M d al bc bs pc lv (vI x :: st) w Q := by
  intro p l e R s m args below meth c Fin dC dI cy b ad A MC MS n0 fx H locs cells slots ls hc hs hw hS ha hl
  exact lv_if_ge fx.1.1 fx.1.2 hd ht (fun h => (kt h p l e R s m args below meth c Fin dC dI cy b ad A MC MS n0 fx H locs cells slots ls hc hs hw hS ha hl)) (fun h => (kf h p l e R s m args below meth c Fin dC dI cy b ad A MC MS n0 fx H locs cells slots ls hc hs hw hS ha hl))

theorem go_icmp_ge {M : Mth} {d : Nat} {al : Bool} {bc bs pc : Nat} {lv : List (Option AV)} {st : List AV} {w : List AC} {Q : Option AV → List AC → Prop} {x y : Int32} {off : Int} (tgt : Nat) (hd : decode (mB M) pc = .ok (.if_icmp .ge off, 3)) (ht : (pc : Int) + off = (tgt : Int)) (kt : y ≤ x → Go M d al bc bs tgt lv st w Q) (kf : ¬ y ≤ x → Go M d al bc bs (pc + 3) lv st w Q) : Go M d al bc bs pc lv (vI y :: vI x :: st) w Q := by
  intro p l e R s m args below meth c Fin dC dI cy b ad A MC MS n0 fx H locs cells slots ls hc hs hw hS ha hl
  exact lv_icmp_ge fx.1.1 fx.1.2 hd ht (fun h => (kt h p l e R s m args below meth c Fin dC dI cy b ad A MC MS n0 fx H locs cells slots ls hc hs hw hS ha hl)) (fun h => (kf h p l e R s m args below meth c Fin dC dI cy b ad A MC MS n0 fx H locs cells slots ls hc hs hw hS ha hl))

theorem go_if_gt {M : Mth} {d : Nat} {al : Bool} {bc bs pc : Nat} {lv : List (Option AV)} {st : List AV} {w : List AC} {Q : Option AV → List AC → Prop} {x : Int32} {off : Int} (tgt : Nat) (hd : decode (mB M) pc = .ok (.ifCond .gt off, 3)) (ht : (pc : Int) + off = (tgt : Int)) (kt : 0 < x → Go M d al bc bs tgt lv st w Q) (kf : ¬ 0 < x → Go M d al bc bs (pc + 3) lv st w Q) : Go M d al bc bs pc lv (vI x :: st) w Q := by
  intro p l e R s m args below meth c Fin dC dI cy b ad A MC MS n0 fx H locs cells slots ls hc hs hw hS ha hl
  exact lv_if_gt fx.1.1 fx.1.2 hd ht (fun h => (kt h p l e R s m args below meth c Fin dC dI cy b ad A MC MS n0 fx H locs cells slots ls hc hs hw hS ha hl)) (fun h => (kf h p l e R s m args below meth c Fin dC dI cy b ad A MC MS n0 fx H locs cells slots ls hc hs hw hS ha hl))

theorem go_icmp_gt {M : Mth} {d : Nat} {al : Bool} {bc bs pc : Nat} {lv : List (Option AV)} {st : List AV} {w : List AC} {Q : Option AV → List AC → Prop} {x y : Int32} {off : Int} (tgt : Nat) (hd : decode (mB M) pc = .ok (.if_icmp .gt off, 3)) (ht : (pc : Int) + off = (tgt : Int)) (kt : y < x → Go M d al bc bs tgt lv st w Q) (kf : ¬ y < x → Go M d al bc bs (pc + 3) lv st w Q) : Go M d al bc bs pc lv (vI y :: vI x :: st) w Q := by
  intro p l e R s m args below meth c Fin dC dI cy b ad A MC MS n0 fx H locs cells slots ls hc hs hw hS ha hl
  exact lv_icmp_gt fx.1.1 fx.1.2 hd ht (fun h => (kt h p l e R s m args below meth c Fin dC dI cy b ad A MC MS n0 fx H locs cells slots ls hc hs hw hS ha hl)) (fun h => (kf h p l e R s m args below meth c Fin dC dI cy b ad A MC MS n0 fx H locs cells slots ls hc hs hw hS ha hl))

theorem go_if_le {M : Mth} {d : Nat} {al : Bool} {bc bs pc : Nat} {lv : List (Option AV)} {st : List AV} {w : List AC} {Q : Option AV → List AC → Prop} {x : Int32} {off : Int} (tgt : Nat) (hd : decode (mB M) pc = .ok (.ifCond .le off, 3)) (ht : (pc : Int) + off = (tgt : Int)) (kt : x ≤ 0 → Go M d al bc bs tgt lv st w Q) (kf : ¬ x ≤ 0 → Go M d al bc bs (pc + 3) lv st w Q) : Go M d al bc bs pc lv (vI x :: st) w Q := by
  intro p l e R s m args below meth c Fin dC dI cy b ad A MC MS n0 fx H locs cells slots ls hc hs hw hS ha hl
  exact lv_if_le fx.1.1 fx.1.2 hd ht (fun h => (kt h p l e R s m args below meth c Fin dC dI cy b ad A MC MS n0 fx H locs cells slots ls hc hs hw hS ha hl)) (fun h => (kf h p l e R s m args below meth c Fin dC dI cy b ad A MC MS n0 fx H locs cells slots ls hc hs hw hS ha hl))

theorem go_icmp_le {M : Mth} {d : Nat} {al : Bool} {bc bs pc : Nat} {lv : List (Option AV)} {st : List AV} {w : List AC} {Q : Option AV → List AC → Prop} {x y : Int32} {off : Int} (tgt : Nat) (hd : decode (mB M) pc = .ok (.if_icmp .le off, 3)) (ht : (pc : Int) + off = (tgt : Int)) (kt : x ≤ y → Go M d al bc bs tgt lv st w Q) (kf : ¬ x ≤ y → Go M d al bc bs (pc + 3) lv st w Q) : Go M d al bc bs pc lv (vI y :: vI x :: st) w Q := by
  intro p l e R s m args below meth c Fin dC dI cy b ad A MC MS n0 fx H locs cells slots ls hc hs hw hS ha hl
  exact lv_icmp_le fx.1.1 fx.1.2 hd ht (fun h => (kt h p l e R s m args below meth c Fin dC dI cy b ad A MC MS n0 fx H locs cells slots ls hc hs hw hS ha hl)) (fun h => (kf h p l e R s m args below meth c Fin dC dI cy b ad A MC MS n0 fx H locs cells slots ls hc hs hw hS ha hl))

theorem go_goto {M : Mth} {d : Nat} {al : Bool} {bc bs pc : Nat} {lv : List (Option AV)} {st : List AV} {w : List AC} {Q : Option AV → List AC → Prop} {off : Int} (tgt : Nat) (hd : decode (mB M) pc = .ok (.goto off, 3)) (ht : (pc : Int) + off = (tgt : Int)) (k : Go M d al bc bs tgt lv st w Q) : Go M d al bc bs pc lv st w Q := by
  intro p l e R s m args below meth c Fin dC dI cy b ad A MC MS n0 fx H locs cells slots ls hc hs hw hS ha hl
  exact lv_goto fx.1.1 fx.1.2 hd ht (k p l e R s m args below meth c Fin dC dI cy b ad A MC MS n0 fx H locs cells slots ls hc hs hw hS ha hl)

theorem go_ifnull {M : Mth} {d : Nat} {al : Bool} {bc bs pc : Nat} {lv : List (Option AV)} {st : List AV} {w : List AC} {Q : Option AV → List AC → Prop} {r : Option Nat} {off : Int} (tgt : Nat) (hd : decode (mB M) pc = .ok (.ifnull off, 3)) (ht : (pc : Int) + off = (tgt : Int)) (kt : r = none → Go M d al bc bs tgt lv st w Q) (kf : ∀ a, r = some a → Go M d al bc bs (pc + 3) lv st w Q) : Go M d al bc bs pc lv (vQ r :: st) w Q := by
  intro p l e R s m args below meth c Fin dC dI cy b ad A MC MS n0 fx H locs cells slots ls hc hs hw hS ha hl
  cases r with
  | none => exact lv_ifnullN fx.1.1 fx.1.2 hd ht (kt rfl p l e R s m args below meth c Fin dC dI cy b ad A MC MS n0 fx H locs cells slots ls hc hs hw hS ha hl)
  | some a => exact lv_ifnull fx.1.1 fx.1.2 hd (kf a rfl p l e R s m args below meth c Fin dC dI cy b ad A MC MS n0 fx H locs cells slots ls hc hs hw hS ha hl)

theorem go_ifnonnull {M : Mth} {d : Nat} {al : Bool} {bc bs pc : Nat} {lv : List (Option AV)} {st : List AV} {w : List AC} {Q : Option AV → List AC → Prop} {r : Option Nat} {off : Int} (tgt : Nat) (hd : decode (mB M) pc = .ok (.ifnonnull off, 3)) (ht : (pc : Int) + off = (tgt : Int)) (kt : ∀ a, r = some a → Go M d al bc bs tgt lv st w Q) (kf : r = none → Go M d al bc bs (pc + 3) lv st w Q) : Go M d al bc bs pc lv (vQ r :: st) w Q := by
  intro p l e R s m args below meth c Fin dC dI cy b ad A MC MS n0 fx H locs cells slots ls hc hs hw hS ha hl
  cases r with
  | none => exact lv_ifnonnullN fx.1.1 fx.1.2 hd (kf rfl p l e R s m args below meth c Fin dC dI cy b ad A MC MS n0 fx H locs cells slots ls hc hs hw hS ha hl)
  | some a => exact lv_ifnonnull fx.1.1 fx.1.2 hd ht (kt a rfl p l e R s m args below meth c Fin dC dI cy b ad A MC MS n0 fx H locs cells slots ls hc hs hw hS ha hl)

theorem go_tableIn {M : Mth} {d : Nat} {al : Bool} {bc bs pc : Nat} {lv : List (Option AV)} {st : List AV} {w : List AC} {Q : Option AV → List AC → Prop} {x : Int32} {dflt lo hi : Int} {offs : Array Int} {len : Nat} {off : Int} (tgt : Nat) (hd : decode (mB M) pc = .ok (.tableswitch dflt lo hi offs, len)) (h1 : ¬ x.toInt < lo) (h2 : ¬ hi < x.toInt) (ho : offs[(x.toInt - lo).toNat]? = some off) (ht : (pc : Int) + off = (tgt : Int)) (k : Go M d al bc bs tgt lv st w Q) : Go M d al bc bs pc lv (vI x :: st) w Q := by
  intro p l e R s m args below meth c Fin dC dI cy b ad A MC MS n0 fx H locs cells slots ls hc hs hw hS ha hl
  exact lv_tableIn fx.1.1 fx.1.2 hd h1 h2 ho ht (k p l e R s m args below meth c Fin dC dI cy b ad A MC MS n0 fx H locs cells slots ls hc hs hw hS ha hl)

theorem go_tableOut {M : Mth} {d : Nat} {al : Bool} {bc bs pc : Nat} {lv : List (Option AV)} {st : List AV} {w : List AC} {Q : Option AV → List AC → Prop} {x : Int32} {dflt lo hi : Int} {offs : Array Int} {len : Nat} (tgt : Nat) (hd : decode (mB M) pc = .ok (.tableswitch dflt lo hi offs, len)) (h : x.toInt < lo ∨ hi < x.toInt) (ht : (pc : Int) + dflt = (tgt : Int)) (k : Go M d al bc bs tgt lv st w Q) : Go M d al bc bs pc lv (vI x :: st) w Q := by
  intro p l e R s m args below meth c Fin dC dI cy b ad A MC MS n0 fx H locs cells slots ls hc hs hw hS ha hl
  exact lv_tableOut fx.1.1 fx.1.2 hd h ht (k p l e R s m args below meth c Fin dC dI cy b ad A MC MS n0 fx H locs cells slots ls hc hs hw hS ha hl)

theorem go_lookup {M : Mth} {d : Nat} {al : Bool} {bc bs pc : Nat} {lv : List (Option AV)} {st : List AV} {w : List AC} {Q : Option AV → List AC → Prop} {x : Int32} {dflt : Int} {ps : Array (Int × Int)} {len : Nat} {off : Int} (tgt : Nat) (hd : decode (mB M) pc = .ok (.lookupswitch dflt ps, len)) (hp : (ps.toList.zip (ps.toList.drop 1)).all (fun (a, next) => a.1 < next.1) = true) (ho : Op.lookupswitch.offset ps.toList dflt x.toInt = off) (ht : (pc : Int) + off = (tgt : Int)) (k : Go M d al bc bs tgt lv st w Q) : Go M d al bc bs pc lv (vI x :: st) w Q := by
  intro p l e R s m args below meth c Fin dC dI cy b ad A MC MS n0 fx H locs cells slots ls hc hs hw hS ha hl
  exact lv_lookup fx.1.1 fx.1.2 hd hp ho ht (k p l e R s m args below meth c Fin dC dI cy b ad A MC MS n0 fx H locs cells slots ls hc hs hw hS ha hl)

theorem go_ireturn {M : Mth} {d : Nat} {al : Bool} {bc bs pc : Nat} {lv : List (Option AV)} {st : List AV} {w : List AC} {Q : Option AV → List AC → Prop} {x : Int32} {ty : FieldType} (hd : decode (mB M) pc = .ok (.ireturn, 1)) (ht : mT M = some ty) (hn : narrow ty (.int x) = .int x) (hbc : al = true → bc = 0) (hq : Q (some (vI x)) w) : Go M d al bc bs pc lv [vI x] w Q := by
  intro p l e R s m args below meth c Fin dC dI cy b ad A MC MS n0 fx H locs cells slots ls hc hs hw hS ha hl
  exact fx.2.2.2.2.2.2.2.2 (some (vI x)) w H locs cells slots pc ls hq hw hS (by omega) (by omega) ⟨fun h => ⟨(ha.1 h).1, by have := (ha.1 h).2; have := hbc h; omega⟩, ha.2⟩ ⟨hd, ty, ht, hn⟩

theorem go_lreturn {M : Mth} {d : Nat} {al : Bool} {bc bs pc : Nat} {lv : List (Option AV)} {st : List AV} {w : List AC} {Q : Option AV → List AC → Prop} {x : Int64} (hd : decode (mB M) pc = .ok (.lreturn, 1)) (ht : mT M = some .long) (hbc : al = true → bc = 0) (hq : Q (some (vL x)) w) : Go M d al bc bs pc lv [vL x] w Q := by
  intro p l e R s m args below meth c Fin dC dI cy b ad A MC MS n0 fx H locs cells slots ls hc hs hw hS ha hl
  exact fx.2.2.2.2.2.2.2.2 (some (vL x)) w H locs cells slots pc ls hq hw hS (by omega) (by omega) ⟨fun h => ⟨(ha.1 h).1, by have := (ha.1 h).2; have := hbc h; omega⟩, ha.2⟩ ⟨hd, ht⟩

theorem go_areturn {M : Mth} {d : Nat} {al : Bool} {bc bs pc : Nat} {lv : List (Option AV)} {st : List AV} {w : List AC} {Q : Option AV → List AC → Prop} {x : Option Nat} {C : String} (hd : decode (mB M) pc = .ok (.areturn, 1)) (ht : mT M = some (.object C)) (hbc : al = true → bc = 0) (hq : Q (some (vQ x)) w) : Go M d al bc bs pc lv [vQ x] w Q := by
  intro p l e R s m args below meth c Fin dC dI cy b ad A MC MS n0 fx H locs cells slots ls hc hs hw hS ha hl
  exact fx.2.2.2.2.2.2.2.2 (some (vQ x)) w H locs cells slots pc ls hq hw hS (by omega) (by omega) ⟨fun h => ⟨(ha.1 h).1, by have := (ha.1 h).2; have := hbc h; omega⟩, ha.2⟩ ⟨hd, C, ht⟩

theorem go_return {M : Mth} {d : Nat} {al : Bool} {bc bs pc : Nat} {lv : List (Option AV)} {st : List AV} {w : List AC} {Q : Option AV → List AC → Prop}  (hd : decode (mB M) pc = .ok (.return_, 1)) (ht : mT M = none) (hbc : al = true → bc = 0) (hq : Q none w) : Go M d al bc bs pc lv [] w Q := by
  intro p l e R s m args below meth c Fin dC dI cy b ad A MC MS n0 fx H locs cells slots ls hc hs hw hS ha hl
  exact fx.2.2.2.2.2.2.2.2 none w H locs cells slots pc ls hq hw hS (by omega) (by omega) ⟨fun h => ⟨(ha.1 h).1, by have := (ha.1 h).2; have := hbc h; omega⟩, ha.2⟩ ⟨hd, ht⟩
end
section
/-- entry idx of the class own is the field k of the class at the place ci of vwCl -/
def FL (own : String) (idx ci k : Nat) : Prop := ∃ (C : String) (T : u_T) (N : Nat), vwCl[ci]? = some (C, T, N) ∧ k < N ∧ Cond.fieldLink own idx (T k).1 (T k).2.1 (T k).2.2.1 ∈ tbG ∧ ∀ w ∈ u_ws C T N, w ∈ tbG
/-- the same, for a store: the field's type, and whether it is final -/
def FP (own : String) (idx ci k : Nat) (ty : FieldType) (fin : Bool) : Prop := ∃ (C : String) (T : u_T) (N : Nat) (ty0 : Nat → FieldType), vwCl[ci]? = some (C, T, N) ∧ k < N ∧ Cond.fieldLink own idx (T k).1 (T k).2.1 (T k).2.2.1 ∈ tbG ∧ (∀ w ∈ u_ws C T N, w ∈ tbG) ∧ (∀ k, k < N → parseFieldDescriptor (T k).2.2.1 = some (ty0 k)) ∧ (∀ a, a < N → ∀ b, b < N → a ≠ b → (T a).2.1 ≠ (T b).2.1) ∧ parseFieldDescriptor (T k).2.2.1 = some ty ∧ (T k).2.2.2 = fin ∧ (T k).1 = own
theorem cvm_get {b : Nat} {ad : Nat → Nat} {fs : List AV} {k : Nat} {v : AV} (h : fs[k]? = some v) : (fs.map (cv b ad))[k]? = some (cv b ad v) := by rw [List.getElem?_map, h]; rfl
theorem cvm_set {b : Nat} {ad : Nat → Nat} {fs : List AV} {k : Nat} {v : AV} : (fs.set k v).map (cv b ad) = (fs.map (cv b ad)).set k (cv b ad v) := by rw [List.map_set]
theorem ws_set {dC : Nat → ClassId} {dI : Nat → Nat → Nat} {cy : Nat → ClassId} {b : Nat} {ad : Nat → Nat} {A : Nat → Prop} {w : List AC} {H : Heap} {a : Nat} {c : AC} {e : va_E} (he : cc b cy ad c = e) (h1 : va_P (dC, dI) vwCl ((wl b cy ad w).set a (ad a, e)) H) (h2 : va_D A ((wl b cy ad w).set a (ad a, e))) : WS dC dI cy b ad A (w.set a c) H := by
  subst he
  exact ⟨by rw [wl_set]; exact h1, by rw [wl_set]; exact h2⟩

theorem go_getfield {M : Mth} {d : Nat} {al : Bool} {bc bs pc : Nat} {lv : List (Option AV)} {st : List AV} {w : List AC} {Q : Option AV → List AC → Prop} {idx : Nat} (a ci k : Nat) {fs : List AV} {v : AV} (hd : decode (mB M) pc = .ok (.getfield idx, 3)) (hf : FL (mO M) idx ci k) (hw0 : w[a]? = some (cO ci fs)) (hv : fs[k]? = some v) (kk : Go M d al bc bs (pc + 3) lv (v :: st) w Q) : Go M d al bc bs pc lv (vR a :: st) w Q := by
  intro p l e R s m args below meth c Fin dC dI cy b ad A MC MS n0 fx H locs cells slots ls hc hs hw hS ha hl
  obtain ⟨C, T, N, h1, h2, h3, h4⟩ := hf
  exact va_get (D := (dC, dI)) (v := cv b ad v) fx.1.1 fx.1.2 fx.2.2.1 h4 fx.2.1.2.2.1 fx.2.2.2.1 hw.1 a (wl_get hw0) h1 k h2 (fx.2.2.1 _ h3) (fun _ h => h) (cvm_get hv) hd (kk p l e R s m args below meth c Fin dC dI cy b ad A MC MS n0 fx H locs cells slots ls hc hs hw hS ha hl)

theorem go_putI {M : Mth} {d : Nat} {al : Bool} {bc bs pc : Nat} {lv : List (Option AV)} {st : List AV} {w : List AC} {Q : Option AV → List AC → Prop} {idx : Nat} (a ci k : Nat) {fs : List AV} {x : Int32} (hd : decode (mB M) pc = .ok (.putfield idx, 3)) (hf : FP (mO M) idx ci k .int false) (hw0 : w[a]? = some (cO ci fs)) (hl0 : k < fs.length) (kk : Go M d al bc bs (pc + 3) lv st (w.set a (cO ci (fs.set k (vI x)))) Q) : Go M d al bc bs pc lv (vI x :: vR a :: st) w Q := by
  intro p l e R s m args below meth c Fin dC dI cy b ad A MC MS n0 fx H locs cells slots ls hc hs hw hS ha hl
  obtain ⟨C, T, N, ty0, h1, h2, h3, h4, h5, h6, h7, h8, h9⟩ := hf
  refine va_put (D := (dC, dI)) (v := cv b ad (vI x)) fx.1.1 fx.1.2 fx.2.2.1 h4 ty0 h5 h6 fx.2.1.2.2.1 fx.2.2.2.1 hw.1 hw.2 hS a (wl_get hw0) h1 k h2 (fx.2.2.1 _ h3) (fun _ h => h) h8 h7 (vp_nar_int x) rfl (by rw [List.length_map]; exact hl0) hd (fun H1 locs1 e1 e2 e3 => ?_)
  exact (kk p l e R s m args below meth c Fin dC dI cy b ad A MC MS n0 fx H1 locs1 cells slots ls hc hs (ws_set (by simp only [cc, cvm_set]) e1 e2) e3 ha.set hl)

theorem go_putRA {M : Mth} {d : Nat} {al : Bool} {bc bs pc : Nat} {lv : List (Option AV)} {st : List AV} {w : List AC} {Q : Option AV → List AC → Prop} {idx : Nat} (a ci k : Nat) {fs : List AV} {t : FieldType} {r : Nat} (hd : decode (mB M) pc = .ok (.putfield idx, 3)) (hf : FP (mO M) idx ci k (.array t) false) (hw0 : w[a]? = some (cO ci fs)) (hl0 : k < fs.length) (kk : Go M d al bc bs (pc + 3) lv st (w.set a (cO ci (fs.set k (vR r)))) Q) : Go M d al bc bs pc lv (vR r :: vR a :: st) w Q := by
  intro p l e R s m args below meth c Fin dC dI cy b ad A MC MS n0 fx H locs cells slots ls hc hs hw hS ha hl
  obtain ⟨C, T, N, ty0, h1, h2, h3, h4, h5, h6, h7, h8, h9⟩ := hf
  refine va_put (D := (dC, dI)) (v := cv b ad (vR r)) fx.1.1 fx.1.2 fx.2.2.1 h4 ty0 h5 h6 fx.2.1.2.2.1 fx.2.2.2.1 hw.1 hw.2 hS a (wl_get hw0) h1 k h2 (fx.2.2.1 _ h3) (fun _ h => h) h8 h7 rfl rfl (by rw [List.length_map]; exact hl0) hd (fun H1 locs1 e1 e2 e3 => ?_)
  exact (kk p l e R s m args below meth c Fin dC dI cy b ad A MC MS n0 fx H1 locs1 cells slots ls hc hs (ws_set (by simp only [cc, cvm_set]) e1 e2) e3 ha.set hl)

theorem go_putFA {M : Mth} {d : Nat} {al : Bool} {bc bs pc : Nat} {lv : List (Option AV)} {st : List AV} {w : List AC} {Q : Option AV → List AC → Prop} {idx : Nat} (a ci k : Nat) {fs : List AV} {t : FieldType} {r : Nat} (hd : decode (mB M) pc = .ok (.putfield idx, 3)) (hf : FP (mO M) idx ci k (.array t) true) (hin : M.1.name = "<init>") (hw0 : w[a]? = some (cO ci fs)) (hl0 : k < fs.length) (kk : Go M d al bc bs (pc + 3) lv st (w.set a (cO ci (fs.set k (vR r)))) Q) : Go M d al bc bs pc lv (vR r :: vR a :: st) w Q := by
  intro p l e R s m args below meth c Fin dC dI cy b ad A MC MS n0 fx H locs cells slots ls hc hs hw hS ha hl
  obtain ⟨C, T, N, ty0, h1, h2, h3, h4, h5, h6, h7, h8, h9⟩ := hf
  refine va_putF (D := (dC, dI)) (v := cv b ad (vR r)) fx.1.1 fx.1.2 fx.2.2.1 h4 ty0 h5 h6 fx.2.1.2.2.1 fx.2.2.2.1 hw.1 hw.2 hS a (wl_get hw0) h1 k h2 (fx.2.2.1 _ h3) (fun _ h => h) h8 (fx.2.1.2.2.2.1.trans hin) h9 h7 rfl rfl (by rw [List.length_map]; exact hl0) hd (fun H1 locs1 e1 e2 e3 => ?_)
  exact (kk p l e R s m args below meth c Fin dC dI cy b ad A MC MS n0 fx H1 locs1 cells slots ls hc hs (ws_set (by simp only [cc, cvm_set]) e1 e2) e3 ha.set hl)

theorem go_putFO {M : Mth} {d : Nat} {al : Bool} {bc bs pc : Nat} {lv : List (Option AV)} {st : List AV} {w : List AC} {Q : Option AV → List AC → Prop} {idx : Nat} (a ci k : Nat) {fs : List AV} {C0 : String} {r : Nat} (hd : decode (mB M) pc = .ok (.putfield idx, 3)) (hf : FP (mO M) idx ci k (.object C0) true) (hin : M.1.name = "<init>") (hw0 : w[a]? = some (cO ci fs)) (hl0 : k < fs.length) (kk : Go M d al bc bs (pc + 3) lv st (w.set a (cO ci (fs.set k (vR r)))) Q) : Go M d al bc bs pc lv (vR r :: vR a :: st) w Q := by
  intro p l e R s m args below meth c Fin dC dI cy b ad A MC MS n0 fx H locs cells slots ls hc hs hw hS ha hl
  obtain ⟨C, T, N, ty0, h1, h2, h3, h4, h5, h6, h7, h8, h9⟩ := hf
  refine va_putF (D := (dC, dI)) (v := cv b ad (vR r)) fx.1.1 fx.1.2 fx.2.2.1 h4 ty0 h5 h6 fx.2.1.2.2.1 fx.2.2.2.1 hw.1 hw.2 hS a (wl_get hw0) h1 k h2 (fx.2.2.1 _ h3) (fun _ h => h) h8 (fx.2.1.2.2.2.1.trans hin) h9 h7 rfl rfl (by rw [List.length_map]; exact hl0) hd (fun H1 locs1 e1 e2 e3 => ?_)
  exact (kk p l e R s m args below meth c Fin dC dI cy b ad A MC MS n0 fx H1 locs1 cells slots ls hc hs (ws_set (by simp only [cc, cvm_set]) e1 e2) e3 ha.set hl)

theorem go_iaload {M : Mth} {d : Nat} {al : Bool} {bc bs pc : Nat} {lv : List (Option AV)} {st : List AV} {w : List AC} {Q : Option AV → List AC → Prop} (a : Nat) {n : Nat} {f : Nat → Int32} {i : Int32} (hd : decode (mB M) pc = .ok (.iaload, 1)) (hw0 : w[a]? = some (cI n f)) (hin : vp_in i n) (kk : Go M d al bc bs (pc + 1) lv (vI (f i.toNatClampNeg) :: st) w Q) : Go M d al bc bs pc lv (vI i :: vR a :: st) w Q := by
  intro p l e R s m args below meth c Fin dC dI cy b ad A MC MS n0 fx H locs cells slots ls hc hs hw hS ha hl
  exact va_iald fx.1.1 fx.1.2 fx.2.2.2.1 hw.1 a 0 (wl_get hw0) rfl hin hd (kk p l e R s m args below meth c Fin dC dI cy b ad A MC MS n0 fx H locs cells slots ls hc hs hw hS ha hl)

theorem go_laload {M : Mth} {d : Nat} {al : Bool} {bc bs pc : Nat} {lv : List (Option AV)} {st : List AV} {w : List AC} {Q : Option AV → List AC → Prop} (a : Nat) {n : Nat} {f : Nat → Int64} {i : Int32} (hd : decode (mB M) pc = .ok (.laload, 1)) (hw0 : w[a]? = some (cJ n f)) (hin : vp_in i n) (kk : Go M d al bc bs (pc + 1) lv (vL (f i.toNatClampNeg) :: st) w Q) : Go M d al bc bs pc lv (vI i :: vR a :: st) w Q := by
  intro p l e R s m args below meth c Fin dC dI cy b ad A MC MS n0 fx H locs cells slots ls hc hs hw hS ha hl
  exact va_lald fx.1.1 fx.1.2 fx.2.2.2.1 hw.1 a 1 (wl_get hw0) rfl hin hd (kk p l e R s m args below meth c Fin dC dI cy b ad A MC MS n0 fx H locs cells slots ls hc hs hw hS ha hl)

theorem go_aaload {M : Mth} {d : Nat} {al : Bool} {bc bs pc : Nat} {lv : List (Option AV)} {st : List AV} {w : List AC} {Q : Option AV → List AC → Prop} (a t : Nat) {n : Nat} {f : Nat → Option Nat} {i : Int32} (hd : decode (mB M) pc = .ok (.aaload, 1)) (ht : t = 2 ∨ t = 3 ∨ t = 4) (hw0 : w[a]? = some (cA t n f)) (hin : vp_in i n) (kk : Go M d al bc bs (pc + 1) lv (vQ (f i.toNatClampNeg) :: st) w Q) : Go M d al bc bs pc lv (vI i :: vR a :: st) w Q := by
  intro p l e R s m args below meth c Fin dC dI cy b ad A MC MS n0 fx H locs cells slots ls hc hs hw hS ha hl
  have hlt : i.toNatClampNeg < n := Nat.not_le.mp fun q => hin (Or.inr q)
  have k1 := (kk p l e R s m args below meth c Fin dC dI cy b ad A MC MS n0 fx H locs cells slots ls hc hs hw hS ha hl)
  have hcell := hw.1 a _ (wl_get hw0)
  have go : ∀ ty : FieldType, (tysOf cy)[t]? = some (cy t, ty) → ty.isReference = true → W p l e R s m args below meth c H locs cells slots Fin (F0 m pc ls ((vI i :: vR a :: st).map (cv b ad))) := fun ty hty hr => W.aald (v := va_rf ((f i.toNatClampNeg).map ad)) (ty := ty) fx.1.1 fx.1.2 hcell ((fx.2.2.2.1.2 t _ hty).1 n (fun j => va_rf ((f j).map ad))) hr (fun q => by cases q) (by show ¬ (i < 0 ∨ (arrV _ _ _).slots.size ≤ _); rw [arrV_size]; exact hin) (by show (arrV _ _ _).slots[_]? = _; rw [arrV_read _ _ hlt]) rfl rfl hd k1
  rcases ht with rfl | rfl | rfl
  · exact go (.object "SpreadNets$Net") rfl rfl
  · exact go (.array .int) rfl rfl
  · exact go (.array .long) rfl rfl

theorem go_iastore {M : Mth} {d : Nat} {al : Bool} {bc bs pc : Nat} {lv : List (Option AV)} {st : List AV} {w : List AC} {Q : Option AV → List AC → Prop} (a : Nat) {n : Nat} {f : Nat → Int32} {i x : Int32} (hd : decode (mB M) pc = .ok (.iastore, 1)) (hw0 : w[a]? = some (cI n f)) (hin : vp_in i n) (kk : Go M d al bc bs (pc + 1) lv st (w.set a (cI n (upd f i.toNatClampNeg x))) Q) : Go M d al bc bs pc lv (vI x :: vI i :: vR a :: st) w Q := by
  intro p l e R s m args below meth c Fin dC dI cy b ad A MC MS n0 fx H locs cells slots ls hc hs hw hS ha hl
  exact va_iast fx.1.1 fx.1.2 fx.2.2.2.1 hw.1 hw.2 hS a 0 (wl_get hw0) rfl hin hd (fun H1 locs1 e1 e2 e3 => (kk p l e R s m args below meth c Fin dC dI cy b ad A MC MS n0 fx H1 locs1 cells slots ls hc hs (ws_set rfl e1 e2) e3 ha.set hl))

theorem go_lastore {M : Mth} {d : Nat} {al : Bool} {bc bs pc : Nat} {lv : List (Option AV)} {st : List AV} {w : List AC} {Q : Option AV → List AC → Prop} (a : Nat) {n : Nat} {f : Nat → Int64} {i : Int32} {x : Int64} (hd : decode (mB M) pc = .ok (.lastore, 1)) (hw0 : w[a]? = some (cJ n f)) (hin : vp_in i n) (kk : Go M d al bc bs (pc + 1) lv st (w.set a (cJ n (vp_updL f i.toNatClampNeg x))) Q) : Go M d al bc bs pc lv (vL x :: vI i :: vR a :: st) w Q := by
  intro p l e R s m args below meth c Fin dC dI cy b ad A MC MS n0 fx H locs cells slots ls hc hs hw hS ha hl
  exact va_last fx.1.1 fx.1.2 fx.2.2.2.1 hw.1 hw.2 hS a 1 (wl_get hw0) rfl hin hd (fun H1 locs1 e1 e2 e3 => (kk p l e R s m args below meth c Fin dC dI cy b ad A MC MS n0 fx H1 locs1 cells slots ls hc hs (ws_set rfl e1 e2) e3 ha.set hl))

theorem go_aastore {M : Mth} {d : Nat} {al : Bool} {bc bs pc : Nat} {lv : List (Option AV)} {st : List AV} {w : List AC} {Q : Option AV → List AC → Prop} (a v : Nat) {n : Nat} {f : Nat → Option Nat} {i : Int32} {vs : List AV} (hd : decode (mB M) pc = .ok (.aastore, 1)) (hw0 : w[a]? = some (cA 2 n f)) (hv : w[v]? = some (cO 2 vs)) (hin : vp_in i n) (kk : Go M d al bc bs (pc + 1) lv st (w.set a (cA 2 n (va_up f i.toNatClampNeg (some v)))) Q) : Go M d al bc bs pc lv (vR v :: vI i :: vR a :: st) w Q := by
  intro p l e R s m args below meth c Fin dC dI cy b ad A MC MS n0 fx H locs cells slots ls hc hs hw hS ha hl
  refine va_astq (r := (RX2, TX2, 2)) fx.1.1 fx.1.2 fx.2.2.2.1 hw.1 hw.2 hS a 2 v 2 (wl_get hw0) rfl (wl_get hv) rfl hin hd (fun H1 locs1 e1 e2 e3 => ?_)
  exact (kk p l e R s m args below meth c Fin dC dI cy b ad A MC MS n0 fx H1 locs1 cells slots ls hc hs (ws_set (by simp only [cc]; congr 7; funext j; by_cases hj : j = i.toNatClampNeg <;> simp [va_up, hj]) e1 e2) e3 ha.set hl)

theorem go_alen {M : Mth} {d : Nat} {al : Bool} {bc bs pc : Nat} {lv : List (Option AV)} {st : List AV} {w : List AC} {Q : Option AV → List AC → Prop} (a : Nat) {t n : Nat} {x : (Nat → Int32) ⊕ ((Nat → Int64) ⊕ (Nat → Option Nat))} (hd : decode (mB M) pc = .ok (.arraylength, 1)) (ht : t < 5) (hw0 : w[a]? = some (.inl (t, n, x))) (kk : Go M d al bc bs (pc + 1) lv (vI (Int32.ofNat n) :: st) w Q) : Go M d al bc bs pc lv (vR a :: st) w Q := by
  intro p l e R s m args below meth c Fin dC dI cy b ad A MC MS n0 fx H locs cells slots ls hc hs hw hS ha hl
  have k1 := (kk p l e R s m args below meth c Fin dC dI cy b ad A MC MS n0 fx H locs cells slots ls hc hs hw hS ha hl)
  obtain ⟨ty, hty⟩ : ∃ ty, (tysOf cy)[t]? = some (cy t, ty) := by
    match t, ht with
    | 0, _ => exact ⟨_, rfl⟩
    | 1, _ => exact ⟨_, rfl⟩
    | 2, _ => exact ⟨_, rfl⟩
    | 3, _ => exact ⟨_, rfl⟩
    | 4, _ => exact ⟨_, rfl⟩
  rcases x with f | f | f
  · exact va_alen fx.1.1 fx.1.2 fx.2.2.2.1 hw.1 a t (wl_get hw0) hty rfl hd k1
  · exact va_alen fx.1.1 fx.1.2 fx.2.2.2.1 hw.1 a t (wl_get hw0) hty rfl hd k1
  · exact va_alen fx.1.1 fx.1.2 fx.2.2.2.1 hw.1 a t (wl_get hw0) hty rfl hd k1

theorem go_sld {M : Mth} {d : Nat} {al : Bool} {bc bs pc : Nat} {lv : List (Option AV)} {st : List AV} {w : List AC} {Q : Option AV → List AC → Prop} {L : Nat} {xs : Nat → Int32} {i : Int32} (hd : decode (mB M) pc = .ok (.iaload, 1)) (hm : mS M = some (L, xs)) (hin : vp_in i L) (kk : Go M d al bc bs (pc + 1) lv (vI (xs i.toNatClampNeg) :: st) w Q) : Go M d al bc bs pc lv (vI i :: vS :: st) w Q := by
  intro p l e R s m args below meth c Fin dC dI cy b ad A MC MS n0 fx H locs cells slots ls hc hs hw hS ha hl
  obtain ⟨h1, h2, h3⟩ := fx.2.2.2.2.2.2.1 L xs hm
  exact va_sld fx.1.1 fx.1.2 h1 h2 h3 hS hin hd (kk p l e R s m args below meth c Fin dC dI cy b ad A MC MS n0 fx H locs cells slots ls hc hs hw hS ha hl)

theorem go_slen {M : Mth} {d : Nat} {al : Bool} {bc bs pc : Nat} {lv : List (Option AV)} {st : List AV} {w : List AC} {Q : Option AV → List AC → Prop} {L : Nat} {xs : Nat → Int32} (hd : decode (mB M) pc = .ok (.arraylength, 1)) (hm : mS M = some (L, xs)) (kk : Go M d al bc bs (pc + 1) lv (vI (Int32.ofNat L) :: st) w Q) : Go M d al bc bs pc lv (vS :: st) w Q := by
  intro p l e R s m args below meth c Fin dC dI cy b ad A MC MS n0 fx H locs cells slots ls hc hs hw hS ha hl
  obtain ⟨h1, h2, h3⟩ := fx.2.2.2.2.2.2.1 L xs hm
  exact va_slen fx.1.1 fx.1.2 h1 h2 h3 hS hd (kk p l e R s m args below meth c Fin dC dI cy b ad A MC MS n0 fx H locs cells slots ls hc hs hw hS ha hl)

theorem cat_le (b : Nat) (ad : Nat → Nat) : ∀ st : List AV, ((st.map (cv b ad)).map fun v => v.category).sum ≤ 2 * st.length
  | [] => Nat.le_refl 0
  | v :: st => by
    have h := cat_le b ad st
    have h2 : (cv b ad v).category ≤ 2 := by rw [cv_cat]; split <;> omega
    simp only [List.map_cons, List.sum_cons, List.length_cons] at h ⊢
    omega

theorem tb_nat : Cond.native arraycopyName ∈ tbG := tbd (by decide +kernel) rfl
theorem tb_stat : Cond.static arraycopyName ∈ tbG := tbd (by decide +kernel) rfl
theorem tb_sys : Cond.initialized "java/lang/System" ∈ tbG := tbd (by decide +kernel) rfl
theorem tb_math : Cond.initialized "java/lang/Math" ∈ tbG := tbd (by decide +kernel) rfl
theorem tb_min1 : Cond.static Lib.Math.min.name ∈ tbG := tbd (by decide +kernel) rfl
theorem tb_min2 : Cond.code Lib.Math.min.name Lib.Math.min.code 2 (some .int) ∈ tbG := tbd (by decide +kernel) rfl
theorem tb_max1 : Cond.static Lib.Math.max.name ∈ tbG := tbd (by decide +kernel) rfl
theorem tb_max2 : Cond.code Lib.Math.max.name Lib.Math.max.code 2 (some .int) ∈ tbG := tbd (by decide +kernel) rfl
theorem tb_abs1 : Cond.static Lib.MathLoose.abs_long.x ∈ tbG := tbd (by decide +kernel) rfl
theorem tb_abs2 : Cond.code Lib.MathLoose.abs_long.x Lib.MathLoose.abs_long.code 2 (some .long) ∈ tbG := tbd (by decide +kernel) rfl
theorem tb_ob1 : Cond.instanceMethod Lib.objectInit ∈ tbG := tbd (by decide +kernel) rfl
theorem tb_ob2 : Cond.code Lib.objectInit ⟨#[0xb1]⟩ 1 none ∈ tbG := tbd (by decide +kernel) rfl

theorem go_copyi {M : Mth} {d : Nat} {al : Bool} {bc bs pc : Nat} {lv : List (Option AV)} {st : List AV} {w : List AC} {Q : Option AV → List AC → Prop} {idx : Nat} (a0 a : Nat) {n0' n1 : Nat} {f g : Nat → Int32} {sp dp n : Int32} (hd : decode (mB M) pc = .ok (.invokestatic idx, 3)) (hlink : Cond.methodLink (mO M) idx arraycopyName ∈ tbG) (hw0 : w[a0]? = some (cI n0' f)) (hw1 : w[a]? = some (cI n1 g)) (h1 : ¬ sp < 0) (h2 : ¬ dp < 0) (h3 : ¬ n < 0) (h4 : sp.toNatClampNeg + n.toNatClampNeg ≤ n0') (h5 : dp.toNatClampNeg + n.toNatClampNeg ≤ n1) (hst : st.length ≤ 2) (kk : Go M (d + 1) al bc bs (pc + 3) lv st (w.set a (cI n1 (va_cpy f g sp.toNatClampNeg dp.toNatClampNeg n.toNatClampNeg))) Q) : Go M (d + 1) al bc bs pc lv (vI n :: vI dp :: vR a :: vI sp :: vR a0 :: st) w Q := by
  intro p l e R s m args below meth c Fin dC dI cy b ad A MC MS n0 fx H locs cells slots ls hc hs hw hS ha hl
  refine va_copyi fx.1.1 fx.1.2 (fx.2.1.2.1.trans hl.1.symm) fx.2.1.2.2.1 (fx.2.2.1 _ hlink) (fx.2.2.1 _ tb_nat) (fx.2.2.1 _ tb_stat) (fx.2.2.1 _ tb_sys) fx.2.2.2.1 hw.1 hw.2 hS a0 a 0 0 (wl_get hw0) (wl_get hw1) rfl rfl rfl h1 h2 h3 h4 h5 (fun _ _ => rfl) (by have := fx.2.2.2.2.2.1.1; omega) ?_ hd (fun H1 locs1 e1 e2 e3 => ?_)
  · have h6 := cat_le b ad st
    have h7 := fx.2.2.2.2.2.1.2.1
    have h8 : nativeFrameWords "java/lang/System" "arraycopy" 5 + 11 ≤ 32 := by decide
    omega
  · exact (kk p l e R s m args below meth c Fin dC dI cy b ad A MC MS n0 fx H1 locs1 cells slots ls hc hs (ws_set rfl e1 e2) e3 ha.set hl)

theorem go_copyl {M : Mth} {d : Nat} {al : Bool} {bc bs pc : Nat} {lv : List (Option AV)} {st : List AV} {w : List AC} {Q : Option AV → List AC → Prop} {idx : Nat} (a0 a : Nat) {n0' n1 : Nat} {f g : Nat → Int64} {sp dp n : Int32} (hd : decode (mB M) pc = .ok (.invokestatic idx, 3)) (hlink : Cond.methodLink (mO M) idx arraycopyName ∈ tbG) (hw0 : w[a0]? = some (cJ n0' f)) (hw1 : w[a]? = some (cJ n1 g)) (h1 : ¬ sp < 0) (h2 : ¬ dp < 0) (h3 : ¬ n < 0) (h4 : sp.toNatClampNeg + n.toNatClampNeg ≤ n0') (h5 : dp.toNatClampNeg + n.toNatClampNeg ≤ n1) (hst : st.length ≤ 2) (kk : Go M (d + 1) al bc bs (pc + 3) lv st (w.set a (cJ n1 (va_cpy f g sp.toNatClampNeg dp.toNatClampNeg n.toNatClampNeg))) Q) : Go M (d + 1) al bc bs pc lv (vI n :: vI dp :: vR a :: vI sp :: vR a0 :: st) w Q := by
  intro p l e R s m args below meth c Fin dC dI cy b ad A MC MS n0 fx H locs cells slots ls hc hs hw hS ha hl
  refine va_copyl fx.1.1 fx.1.2 (fx.2.1.2.1.trans hl.1.symm) fx.2.1.2.2.1 (fx.2.2.1 _ hlink) (fx.2.2.1 _ tb_nat) (fx.2.2.1 _ tb_stat) (fx.2.2.1 _ tb_sys) fx.2.2.2.1 hw.1 hw.2 hS a0 a 1 1 (wl_get hw0) (wl_get hw1) rfl rfl rfl h1 h2 h3 h4 h5 (fun _ _ => rfl) (by have := fx.2.2.2.2.2.1.1; omega) ?_ hd (fun H1 locs1 e1 e2 e3 => ?_)
  · have h6 := cat_le b ad st
    have h7 := fx.2.2.2.2.2.1.2.1
    have h8 : nativeFrameWords "java/lang/System" "arraycopy" 5 + 11 ≤ 32 := by decide
    omega
  · exact (kk p l e R s m args below meth c Fin dC dI cy b ad A MC MS n0 fx H1 locs1 cells slots ls hc hs (ws_set rfl e1 e2) e3 ha.set hl)

theorem go_mmin {M : Mth} {d : Nat} {al : Bool} {bc bs pc : Nat} {lv : List (Option AV)} {st : List AV} {w : List AC} {Q : Option AV → List AC → Prop} {idx : Nat} {x y : Int32} (hd : decode (mB M) pc = .ok (.invokestatic idx, 3)) (hlink : Cond.methodLink (mO M) idx Lib.Math.min.name ∈ tbG) (hst : st.length ≤ 4) (kk : Go M (d + 1) al bc bs (pc + 3) lv (vI (if y < x then y else x) :: st) w Q) : Go M (d + 1) al bc bs pc lv (vI y :: vI x :: st) w Q := by
  intro p l e R s m args below meth c Fin dC dI cy b ad A MC MS n0 fx H locs cells slots ls hc hs hw hS ha hl
  refine va_mmin fx.1.1 fx.1.2 (fx.2.1.2.1.trans hl.1.symm) fx.2.1.2.2.1 (fx.2.2.1 _ hlink) (fx.2.2.1 _ tb_min1) (fx.2.2.1 _ tb_math) (fx.2.2.1 _ tb_min2) (by have := fx.2.2.2.2.2.1.1; omega) ?_ (by have := fx.2.2.2.2.2.1.2.2.1; omega) (by have := fx.2.2.2.2.2.1.2.2.2; omega) hd (kk p l e R s m args below meth c Fin dC dI cy b ad A MC MS n0 fx H locs cells slots ls hc hs hw hS ha hl)
  have h6 := cat_le b ad st
  have h7 := fx.2.2.2.2.2.1.2.1
  omega

theorem go_mmax {M : Mth} {d : Nat} {al : Bool} {bc bs pc : Nat} {lv : List (Option AV)} {st : List AV} {w : List AC} {Q : Option AV → List AC → Prop} {idx : Nat} {x y : Int32} (hd : decode (mB M) pc = .ok (.invokestatic idx, 3)) (hlink : Cond.methodLink (mO M) idx Lib.Math.max.name ∈ tbG) (hst : st.length ≤ 4) (kk : Go M (d + 1) al bc bs (pc + 3) lv (vI (if x < y then y else x) :: st) w Q) : Go M (d + 1) al bc bs pc lv (vI y :: vI x :: st) w Q := by
  intro p l e R s m args below meth c Fin dC dI cy b ad A MC MS n0 fx H locs cells slots ls hc hs hw hS ha hl
  refine va_mmax fx.1.1 fx.1.2 (fx.2.1.2.1.trans hl.1.symm) fx.2.1.2.2.1 (fx.2.2.1 _ hlink) (fx.2.2.1 _ tb_max1) (fx.2.2.1 _ tb_math) (fx.2.2.1 _ tb_max2) (by have := fx.2.2.2.2.2.1.1; omega) ?_ (by have := fx.2.2.2.2.2.1.2.2.1; omega) (by have := fx.2.2.2.2.2.1.2.2.2; omega) hd (kk p l e R s m args below meth c Fin dC dI cy b ad A MC MS n0 fx H locs cells slots ls hc hs hw hS ha hl)
  have h6 := cat_le b ad st
  have h7 := fx.2.2.2.2.2.1.2.1
  omega

theorem go_mabs {M : Mth} {d : Nat} {al : Bool} {bc bs pc : Nat} {lv : List (Option AV)} {st : List AV} {w : List AC} {Q : Option AV → List AC → Prop} {idx : Nat} {x : Int64} (hd : decode (mB M) pc = .ok (.invokestatic idx, 3)) (hlink : Cond.methodLink (mO M) idx Lib.MathLoose.abs_long.x ∈ tbG) (hst : st.length ≤ 4) (kk : Go M (d + 1) al bc bs (pc + 3) lv (vL (if 0 < x then x else -x) :: st) w Q) : Go M (d + 1) al bc bs pc lv (vL x :: st) w Q := by
  intro p l e R s m args below meth c Fin dC dI cy b ad A MC MS n0 fx H locs cells slots ls hc hs hw hS ha hl
  refine va_mabs_long fx.1.1 fx.1.2 (fx.2.1.2.1.trans hl.1.symm) fx.2.1.2.2.1 (fx.2.2.1 _ hlink) (fx.2.2.1 _ tb_abs1) (fx.2.2.1 _ tb_math) (fx.2.2.1 _ tb_abs2) (by have := fx.2.2.2.2.2.1.1; omega) ?_ (by have := fx.2.2.2.2.2.1.2.2.1; omega) (by have := fx.2.2.2.2.2.1.2.2.2; omega) hd (kk p l e R s m args below meth c Fin dC dI cy b ad A MC MS n0 fx H locs cells slots ls hc hs hw hS ha hl)
  have h6 := cat_le b ad st
  have h7 := fx.2.2.2.2.2.1.2.1
  omega

theorem go_objInit {M : Mth} {d : Nat} {al : Bool} {bc bs pc : Nat} {lv : List (Option AV)} {st : List AV} {w : List AC} {Q : Option AV → List AC → Prop} {idx a : Nat} (hd : decode (mB M) pc = .ok (.invokespecial idx, 3)) (hlink : Cond.methodLink (mO M) idx Lib.objectInit ∈ tbG) (hst : st.length ≤ 4) (kk : Go M (d + 1) al bc bs (pc + 3) lv st w Q) : Go M (d + 1) al bc bs pc lv (vR a :: st) w Q := by
  intro p l e R s m args below meth c Fin dC dI cy b ad A MC MS n0 fx H locs cells slots ls hc hs hw hS ha hl
  have h6 := cat_le b ad st
  have h7 := fx.2.2.2.2.2.1.2.1
  refine W.objInit fx.1.1 fx.1.2 fx.2.1.2.2.1 (fx.2.2.1 _ hlink) (fx.2.2.1 _ tb_ob1) (fx.2.2.1 _ tb_ob2) rfl (by rw [fx.2.1.2.1]; exact hl.1) rfl hd (by have := fx.2.2.2.2.2.1.1; omega) ?_ (kk p l e R s m args below meth c Fin dC dI cy b ad A MC MS n0 fx H locs cells slots ls hc hs hw hS ha hl)
  show 2 * 0 + _ + 12 ≤ _
  omega
end
section
section CORE4
/-- which cells a method may change -/
def CAq (ad : Nat → Nat) (w : List AC) (sz : Nat) : Nat → Prop := fun q => (∃ k, k < w.length ∧ q = ad k) ∨ sz ≤ q
def CP (dC : Nat → ClassId) (dI : Nat → Nat → Nat) (cy : Nat → ClassId) (b : Nat) (ad : Nat → Nat) (sz : Nat) (al : Bool) (av : List AV) (w : List AC) : Array Value → State → Prop :=
  va_Pc (av.map (cv b ad)) (fun U => U.heap.size = sz ∧ va_P (dC, dI) vwCl (wl b cy ad w) U.heap ∧ va_K (dC, dI) vwCl (tysOf cy) U ∧ va_D (fun _ => True) (wl b cy ad w) ∧ (al = true → ∀ j : Nat, ad (w.length + j) = sz + j) ∧ NX U)
def CQ (dC : Nat → ClassId) (dI : Nat → Nat → Nat) (cy : Nat → ClassId) (b : Nat) (ad : Nat → Nat) (sz : Nat) (al : Bool) (w : List AC) (mc : Nat) (Q : Option AV → List AC → Prop) : Array Value → State → Outcome → State → Prop :=
  fun _ st oc t => (∃ (r : Option AV) (w' : List AC), oc = .returned (r.map (cv b ad)) ∧ Q r w' ∧ va_P (dC, dI) vwCl (wl b cy ad w') t.heap ∧ va_D (CAq ad w sz) (wl b cy ad w') ∧ (al = true → w'.length = w.length + mc) ∧ (al = false → w'.length = w.length)) ∧ va_F (CAq ad w sz) st t
abbrev rmOf (d mc ms : Nat) : Room := { frames := d, cells := mc, slots := ms, locals := 36 * d }
/-- M's contract: with d frames more, from the arguments av and the world w it returns, with an answer and a world of Q; mc cells of ms slots are made -/
def Calls (M : Mth) (d : Nat) (al : Bool) (mc ms : Nat) (av : List AV) (w : List AC) (Q : Option AV → List AC → Prop) : Prop :=
  ∀ (l : Launch) (dC : Nat → ClassId) (dI : Nat → Nat → Nat) (cy : Nat → ClassId) (b : Nat) (ad : Nat → Nat) (sz : Nat),
  Met l M.1 (Cond.code M.1 (mB M) (mL M) (mT M) :: tbG) (rmOf d mc ms) (CP dC dI cy b ad sz al av w) (CQ dC dI cy b ad sz al w mc Q) mc ms (CAq ad w sz)
theorem W_sized {p : Program} {l : Launch} {e : Env} {R : Room} {s : State} {m : MethodId} {args : Array Value} {below : List Frame} {meth : Method} {c : Code} {H : Heap} {locs : List Loc} {cells slots : Nat} {Q : State → Prop} {g : JFrame} (h : H.size ≤ s.heap.size + cells → W p l e R s m args below meth c H locs cells slots Q g) : W p l e R s m args below meth c H locs cells slots Q g :=
  fun T hT X => h (by rw [← hT]; exact X.heapSize) T hT X
def lvIn : List AV → List (Option AV)
  | [] => []
  | v :: t => bif isL v then some v :: none :: lvIn t else some v :: lvIn t
theorem lvIn_len (b : Nat) (ad : Nat → Nat) : ∀ av : List AV, (lg_sl (av.map (cv b ad))).length = (lvIn av).length
  | [] => rfl
  | v :: t => by
    have ih := lvIn_len b ad t
    unfold lg_sl at ih ⊢
    rw [List.map_cons, List.flatMap_cons, List.length_append, ih, lvIn, cv_cat]
    cases h : isL v
    · simp only [cond_false, List.length_cons]
      rw [if_neg (by simp)]
      simp; omega
    · simp only [cond_true, List.length_cons]
      simp; omega
theorem lvIn_at (b : Nat) (ad : Nat → Nat) : ∀ (av : List AV) (j i : Nat) (v : AV), (lvIn av)[i]? = some (some v) → (j + i, cv b ad v) ∈ lv_args j (av.map (cv b ad))
  | [], _, _, _, h => by simp [lvIn] at h
  | x :: t, j, i, v, h => by
    rw [List.map_cons, lv_args]
    rw [lvIn] at h
    cases hx : isL x
    · rw [hx] at h
      simp only [cond_false] at h
      rw [cv_cat, hx]
      match i, h with
      | 0, h =>
        have : x = v := by simpa using h
        subst this
        exact List.mem_cons_self
      | i + 1, h =>
        have := lvIn_at b ad t (j + 1) i v (by simpa using h)
        rw [show j + (i + 1) = j + 1 + i by omega]
        exact List.mem_cons_of_mem _ (by simpa using this)
    · rw [hx] at h
      simp only [cond_true] at h
      rw [cv_cat, hx]
      match i, h with
      | 0, h =>
        have : x = v := by simpa using h
        subst this
        exact List.mem_cons_self
      | 1, h => simp at h
      | i + 2, h =>
        have := lvIn_at b ad t (j + 2) i v (by simpa using h)
        rw [show j + (i + 2) = j + 2 + i by omega]
        exact List.mem_cons_of_mem _ (by simpa using this)
/-- what is known of a method by the tables -/
def MK (M : Mth) (n : Nat) : Prop := Cond.code M.1 (mB M) (mL M) (mT M) ∈ tbG ∧ mO M = M.1.cls ∧ plainName M.1.cls = true ∧ mL M ≤ 17 ∧ (M.1.cls ≠ "java/lang/invoke/MethodHandle" ∧ M.1.cls ≠ "java/lang/invoke/VarHandle" ∧ (parseMethodDescriptor M.1.desc).map (fun d => d.parameters.length) = some n) ∧ Cond.initialized M.1.cls ∈ tbG ∧ mS M = none
theorem Calls.of {M : Mth} {n d : Nat} {al : Bool} {mc ms : Nat} {av : List AV} {w : List AC} {Q : Option AV → List AC → Prop} (hM : MK M n) (k : Nat) (lv : List (Option AV)) (hlv : lvIn av ++ List.replicate k none = lv) (hn : lv.length ≤ mL M) (hgo : Go M d al mc ms 0 lv [] w Q) : Calls M d al mc ms av w Q := by
  intro l dC dI cy b ad sz
  refine Met.ofW (cc := mB M) (maxL := mL M) (ret := mT M) hM.2.2.1 rfl ?_
  intro p e s m args below meth c s₁ B hml hv
  obtain ⟨rfl, hsz, hP, hK, hD0, hfr, hnx⟩ := hv
  subst hsz
  have hts0 := atoms_spec (ws := Cond.code M.1 (mB M) (mL M) (mT M) :: tbG) B.pre
  have hown : s.vm.findClass (mO M) = some m.cls := by rw [hM.2.1]; exact findClass_of_methodNamed B.named
  have hlocks := B.notSynchronized
  have hnm := (name_of_methodNamed B.named B.method).1
  have hlen := lvIn_len b ad av
  have hent := lv_entry (av.map (cv b ad)) (n := mL M) (by rw [hlen]; rw [← hlv, List.length_append] at hn; omega)
  rw [lg_entry_eq]
  have hAin : ∀ k, k < w.length → CAq ad w s.heap.size (ad k) := fun k hk => Or.inl ⟨k, hk, rfl⟩
  have hD : va_D (CAq ad w s.heap.size) (wl b cy ad w) := ⟨hD0.1, fun k q hk => by
    obtain ⟨c0, h1, rfl⟩ := wl_at hk
    exact hAin k (List.getElem?_eq_some_iff.mp h1).1⟩
  have hlvh : lvh b ad ((lg_sl (av.map (cv b ad)) ++ List.replicate (mL M - (lg_sl (av.map (cv b ad))).length) Slot.unset).toArray) (mL M) lv := by
    refine ⟨hent.1, hent.2.1, fun i v hi => ?_⟩
    rw [← hlv] at hi
    by_cases h9 : i < (lvIn av).length
    · rw [List.getElem?_append_left h9] at hi
      have := hent.2.2 _ (lvIn_at b ad av 0 i v hi)
      simpa using this
    · rw [List.getElem?_append_right (by omega)] at hi
      have := List.eq_of_mem_replicate (List.mem_of_getElem? hi)
      cases this
  refine hgo p l e _ s m _ below meth c _ dC dI cy b ad (CAq ad w s.heap.size) mc ms w.length ⟨⟨B.exec, B.bytes⟩, ⟨B.returns, hml, hown, hnm, hlocks, hnx⟩, fun x hx => hts0 x (List.mem_cons_of_mem _ hx), hK, fun q hq => Or.inr hq, ⟨Nat.le_refl _, Nat.le_refl _, Nat.le_refl _, Nat.le_refl _⟩, (fun L xs hS => by rw [hM.2.2.2.2.2.2] at hS; cases hS), hfr, ?_⟩ s.heap [] 0 0 _ (by omega) (by omega) ⟨hP, hD⟩ va_S.rf ⟨fun _ => ⟨rfl, by omega⟩, fun _ => rfl⟩ hlvh
  intro r w' H locs cells slots pc ls hq hw hS h1 h2 ha hr
  refine W_sized (fun hb9 => W.widen h1 h2 ?_)
  have fin : ∀ t : State, t.heap = H → s.WarmedH t.vm → CQ dC dI cy b ad s.heap.size al w mc Q (av.map (cv b ad)).toArray s (.returned (r.map (cv b ad))) t := fun t ht hW => ⟨⟨r, w', rfl, hq, by rw [ht]; exact hw.1, hw.2, fun h => by have := ha.1 h; omega, ha.2⟩, hS.F ht⟩
  match r, hr, fin with
  | none, hr, fin => exact W.vret B.exec B.bytes (B.returns.trans hr.2) fin hS.2.2 hr.1 hlocks
  | some (.inl x), hr, fin =>
    obtain ⟨hd, ty, ht, hn9⟩ := hr
    exact W.zret B.exec B.bytes (B.returns.trans ht) hn9 fin hS.2.2 hd hlocks
  | some (.inr (.inl x)), hr, fin => exact W.lret B.exec B.bytes (B.returns.trans hr.2) fin hS.2.2 hr.1 hlocks
  | some (.inr (.inr (.inl x))), hr, fin =>
    obtain ⟨hd, C, ht⟩ := hr
    refine W.aret B.exec B.bytes (B.returns.trans ht) (Or.inl ⟨C, rfl⟩) ?_ fin hS.2.2 hd hlocks
    cases x with
    | none => exact Or.inl rfl
    | some a => exact Or.inr ⟨_, rfl⟩
  | some (.inr (.inr (.inr x))), hr, _ => exact hr.elim
end CORE4
end
section
theorem tb_in {y : MethodName} {cb : ByteArray} {ml : Nat} {ret : Option FieldType} (h : Cond.code y cb ml ret ∈ tbG) : GoodIn tbG (Cond.code y cb ml ret :: tbG) := fun x hx => by
  have hm : x ∈ tbG := by
    rcases List.mem_cons.mp hx with rfl | h9
    · exact h
    · exact h9
  exact ⟨hm, good_of_word (List.mem_filter.mp hm).2⟩
theorem CP_blind {dC : Nat → ClassId} {dI : Nat → Nat → Nat} {cy : Nat → ClassId} {b : Nat} {ad : Nat → Nat} {sz : Nat} {al : Bool} {av : List AV} {w : List AC} : FrameBlind (CP dC dI cy b ad sz al av w) := fun a U g mk q => by
  obtain ⟨q0, q1, qP, qK, qD, qF, qN⟩ := q
  exact ⟨q0, q1, qP, va_K.moved (u := U) (U := U.calling g mk a) (Vm.Alike.refl U.vm) qK, qD, qF, qN.same rfl⟩
theorem HA_size {al : Bool} {w : List AC} {p : Program} {l : Launch} {e : Env} {R : Room} {s : State} {m : MethodId} {args : Array Value} {below : List Frame} {meth : Method} {c : Code} {Fin : State → Prop} {dC : Nat → ClassId} {dI : Nat → Nat → Nat} {cy : Nat → ClassId} {b : Nat} {ad : Nat → Nat} {A : Nat → Prop} {MC MS n0 : Nat} {M : Mth} {d bc : Nat} {Q : Option AV → List AC → Prop} {H : Heap} {locs : List Loc} {cells : Nat} (fx : Fx M d al Q p l e R s m args below meth c Fin dC dI cy b ad A MC MS n0) (hw : WS dC dI cy b ad A w H) (hS : va_S A s.heap H locs) (ha : HA al w n0 cells bc MC) (hsz : H.size ≤ s.heap.size + cells) : al = true → ∀ j : Nat, ad (w.length + j) = H.size + j := by
  intro h j
  have hf := fx.2.2.2.2.2.2.2.1 h
  have h1 := (ha.1 h).1
  have h2 : s.heap.size + cells ≤ H.size := by
    by_cases h0 : cells = 0
    · have := hS.1; omega
    · have hlt : w.length - 1 < w.length := by omega
      have h3 := (hw.1 (w.length - 1) _ (wl_get (List.getElem?_eq_getElem hlt))).lt
      have h4 := hf (cells - 1)
      rw [show n0 + (cells - 1) = w.length - 1 by omega] at h4
      have h5 : ad (w.length - 1) < H.size := h3
      omega
  have h6 := hf (cells + j)
  rw [show n0 + (cells + j) = w.length + j by omega] at h6
  omega
theorem CP_at {al : Bool} {w : List AC} {p : Program} {l : Launch} {e : Env} {R : Room} {s : State} {m : MethodId} {args : Array Value} {below : List Frame} {meth : Method} {c : Code} {Fin : State → Prop} {dC : Nat → ClassId} {dI : Nat → Nat → Nat} {cy : Nat → ClassId} {b : Nat} {ad : Nat → Nat} {A : Nat → Prop} {MC MS n0 : Nat} {M : Mth} {d bc : Nat} {Q : Option AV → List AC → Prop} {H : Heap} {locs : List Loc} {cells : Nat} (av : List AV) (fx : Fx M d al Q p l e R s m args below meth c Fin dC dI cy b ad A MC MS n0) (hw : WS dC dI cy b ad A w H) (hS : va_S A s.heap H locs) (ha : HA al w n0 cells bc MC) (hsz : H.size ≤ s.heap.size + cells) : ∀ U : State, U.heap = H → s.WarmedH U.vm → CP dC dI cy b ad H.size al av w (av.map (cv b ad)).toArray U := fun U hU hW =>
  ⟨rfl, by rw [hU], by rw [hU]; exact hw.1, va_K.moved hW.alike fx.2.2.2.1, hw.2.weaken (fun _ _ _ _ => trivial), HA_size fx hw hS ha hsz, fx.2.1.2.2.2.2.2.moved hW⟩
theorem call_after {al : Bool} {w : List AC} {p : Program} {l : Launch} {e : Env} {R : Room} {s : State} {m : MethodId} {args : Array Value} {below : List Frame} {meth : Method} {c : Code} {Fin : State → Prop} {dC : Nat → ClassId} {dI : Nat → Nat → Nat} {cy : Nat → ClassId} {b : Nat} {ad : Nat → Nat} {A : Nat → Prop} {MC MS n0 : Nat} {M : Mth} {d bc bs pc mc ms : Nat} {lv : List (Option AV)} {st : List AV} {Q Q' : Option AV → List AC → Prop} {H : Heap} {locs : List Loc} {cells slots : Nat} {ls : Array Slot} {st0 : List Value} {av : Array Value} (fx : Fx M d al Q p l e R s m args below meth c Fin dC dI cy b ad A MC MS n0) (hc : cells + (bc + mc) ≤ MC) (hs : slots + (bs + ms) ≤ MS) (hw : WS dC dI cy b ad A w H) (hS : va_S A s.heap H locs) (ha : HA al w n0 cells (bc + mc) MC) (hl : lvh b ad ls (mL M) lv)
    (hr : va_Run p l e R s m args below meth c H locs cells slots mc ms (F0 m pc ls st0) (st.map (cv b ad)) (CQ dC dI cy b ad H.size al w mc Q' av) (CAq ad w H.size)) (kk : ∀ r w', Q' r w' → Go M d al bc bs (pc + 3) lv (r.toList ++ st) w' Q) : W p l e R s m args below meth c H locs cells slots Fin (F0 m pc ls st0) := by
  intro T hT X
  obtain ⟨v, st₀, t, T', L, h0, X', hL, e1, e2, ⟨⟨r, w', hv, hq, hP1, hD1, hl1, hl2⟩, hz, hk⟩, stp⟩ := hr T hT X
  cases hv
  rw [h0] at hz hk
  have hA1 : ∀ q, CAq ad w H.size q → A q := by
    intro q h
    rcases h with ⟨k9, h1, rfl⟩ | h
    · exact hw.2.2 k9 _ (wl_get (List.getElem?_eq_getElem h1))
    · exact fx.2.2.2.2.1 q (Nat.le_trans hS.1 h)
  have hWS : WS dC dI cy b ad A w' T'.heap := ⟨by rw [e1]; exact hP1, hD1.weaken (fun _ _ _ h => hA1 _ h)⟩
  have hS' : va_S A s.heap T'.heap (locs ++ L) := by
    refine ⟨Nat.le_trans hS.1 (by rw [e1]; exact hz), fun q h1 h2 => ?_, fun q hq => ?_⟩
    · rw [e1, hk q (Nat.lt_of_lt_of_le h1 hS.1) (fun z => h2 (hA1 q z))]
      exact hS.2.1 q h1 h2
    · rcases List.mem_append.mp hq with h | h
      · exact hS.2.2 q h
      · exact hA1 _ (hL q h)
  have hHA : HA al w' n0 (cells + mc) bc MC := ⟨fun h => by have := ha.1 h; have := hl1 h; omega, fun h => by have := ha.2 h; have := hl2 h; omega⟩
  obtain ⟨t2, a1, b1⟩ := kk r w' hq p l e R s m args below meth c Fin dC dI cy b ad A MC MS n0 fx T'.heap (locs ++ L) (cells + mc) (slots + ms) ls (by omega) (by omega) hWS hS' hHA hl T' rfl X'
  refine ⟨t2, stp t2 ?_, b1⟩
  cases r with
  | none => exact a1
  | some x => exact a1
theorem rest_room (b : Nat) (ad : Nat → Nat) {st : List AV} (h : st.length ≤ 4) : ((st.map (cv b ad)).map fun v => v.category).sum ≤ 8 := by
  have := cat_le b ad st
  omega

theorem go_callV {M M' : Mth} {n d : Nat} {al : Bool} {bc bs pc mc ms : Nat} {lv : List (Option AV)} {stk : List AV} {w : List AC} {Q Q' : Option AV → List AC → Prop} {idx : Nat} {a : Nat} (as st : List AV) {ci : Nat} {fs : List AV} {q : vw_C} (hd : decode (mB M) pc = .ok (.invokevirtual idx, 3)) (hM : MK M' n) (hlink : Cond.methodLink (mO M) idx M'.1 ∈ tbG) (hin : Cond.instanceMethod M'.1 ∈ tbG ∧ Cond.selects M'.1.cls M'.1 M'.1 ∈ tbG) (hci : vwCl[ci]? = some q) (hq1 : q.1 = M'.1.cls) (hw0 : w[a]? = some (cO ci fs)) (hn : as.length = n) (hst : st.length ≤ 4) (hstk : stk = as.reverse ++ vR a :: st) (hcall : Calls M' d al mc ms (vR a :: as) w Q') (kk : ∀ r w', Q' r w' → Go M (d + 1) al bc bs (pc + 3) lv (r.toList ++ st) w' Q) : Go M (d + 1) al (bc + mc) (bs + ms) pc lv stk w Q := by
  intro p l e R s m args below meth c Fin dC dI cy b ad A MC MS n0 fx H locs cells slots ls hc hs hw hS ha hl
  subst hstk
  refine W_sized (fun hsz => call_after fx hc hs hw hS ha hl (av := (Value.ref (ad a) :: as.map (cv b ad)).toArray) ?_ kk)
  refine va_runV (As := as.map (cv b ad)) (rest := st.map (cv b ad)) (C := M'.1.cls) ⟨fx.1.1, fx.1.2, fx.2.1.2.1, fx.2.1.2.2.1, fx.2.2.1⟩ (hcall l dC dI cy b ad H.size) ⟨callB_of (rm := rmOf d mc ms) n fx.2.2.1 (tb_in hM.1) rfl rfl rfl (fx.2.2.1 _ hM.2.2.2.2.2.1) (fx.2.2.1 _ hlink) hM.2.2.2.2.1 ⟨by have := fx.2.2.2.2.2.1.1; show d + 1 ≤ _; omega, by have := fx.2.2.2.2.2.1.2.1; have := hM.2.2.2.1; show 8 + (mL M' + 11) + 36 * d ≤ _; omega⟩, fx.2.2.1 _ hin.1, fx.2.2.1 _ hin.2⟩ ⟨CP_blind, ?_, CP_at (vR a :: as) fx hw hS ha hsz⟩ rfl (by rw [List.length_map]; exact hn) hl.1 (by simp [List.map_reverse, cv, va_rf]) (lv_room (rest_room b ad hst)) hd ⟨by have := fx.2.2.2.2.2.1.2.2.1; omega, by have := fx.2.2.2.2.2.1.2.2.2; omega⟩
  have := va_recv (q := q) fx.2.2.2.1 hw.1 hci (wl_get hw0)
  rw [hq1] at this
  exact this
theorem go_callS {M M' : Mth} {n d : Nat} {al : Bool} {bc bs pc mc ms : Nat} {lv : List (Option AV)} {stk : List AV} {w : List AC} {Q Q' : Option AV → List AC → Prop} {idx : Nat} (as st : List AV) (hd : decode (mB M) pc = .ok (.invokestatic idx, 3)) (hM : MK M' n) (hlink : Cond.methodLink (mO M) idx M'.1 ∈ tbG) (hst0 : Cond.static M'.1 ∈ tbG) (hn : as.length = n) (hst : st.length ≤ 4) (hstk : stk = as.reverse ++ st) (hcall : Calls M' d al mc ms as w Q') (kk : ∀ r w', Q' r w' → Go M (d + 1) al bc bs (pc + 3) lv (r.toList ++ st) w' Q) : Go M (d + 1) al (bc + mc) (bs + ms) pc lv stk w Q := by
  intro p l e R s m args below meth c Fin dC dI cy b ad A MC MS n0 fx H locs cells slots ls hc hs hw hS ha hl
  subst hstk
  refine W_sized (fun hsz => call_after fx hc hs hw hS ha hl (av := (as.map (cv b ad)).toArray) ?_ kk)
  exact va_runS (As := as.map (cv b ad)) (rest := st.map (cv b ad)) ⟨fx.1.1, fx.1.2, fx.2.1.2.1, fx.2.1.2.2.1, fx.2.2.1⟩ (hcall l dC dI cy b ad H.size) ⟨callB_of (rm := rmOf d mc ms) n fx.2.2.1 (tb_in hM.1) rfl rfl rfl (fx.2.2.1 _ hM.2.2.2.2.2.1) (fx.2.2.1 _ hlink) hM.2.2.2.2.1 ⟨by have := fx.2.2.2.2.2.1.1; show d + 1 ≤ _; omega, by have := fx.2.2.2.2.2.1.2.1; have := hM.2.2.2.1; show 8 + (mL M' + 11) + 36 * d ≤ _; omega⟩, fx.2.2.1 _ hst0⟩ ⟨CP_blind, CP_at as fx hw hS ha hsz⟩ rfl (by rw [List.length_map]; exact hn) hl.1 (by simp [List.map_reverse]) (lv_room (rest_room b ad hst)) hd ⟨by have := fx.2.2.2.2.2.1.2.2.1; omega, by have := fx.2.2.2.2.2.1.2.2.2; omega⟩
theorem go_callI {M M' : Mth} {n d : Nat} {al : Bool} {bc bs pc mc ms : Nat} {lv : List (Option AV)} {stk : List AV} {w : List AC} {Q Q' : Option AV → List AC → Prop} {idx : Nat} {a : Nat} (as st : List AV) (hd : decode (mB M) pc = .ok (.invokespecial idx, 3)) (hM : MK M' n) (hlink : Cond.methodLink (mO M) idx M'.1 ∈ tbG) (hin : Cond.instanceMethod M'.1 ∈ tbG ∧ M'.1.name = "<init>" ∧ mT M' = none) (hn : as.length = n) (hst : st.length ≤ 4) (hstk : stk = as.reverse ++ vR a :: st) (hcall : Calls M' d al mc ms (vR a :: as) w Q') (kk : ∀ r w', Q' r w' → Go M (d + 1) al bc bs (pc + 3) lv (r.toList ++ st) w' Q) : Go M (d + 1) al (bc + mc) (bs + ms) pc lv stk w Q := by
  intro p l e R s m args below meth c Fin dC dI cy b ad A MC MS n0 fx H locs cells slots ls hc hs hw hS ha hl
  subst hstk
  refine W_sized (fun hsz => call_after fx hc hs hw hS ha hl (av := (Value.ref (ad a) :: as.map (cv b ad)).toArray) ?_ kk)
  have hc1 := callB_of (R := R) (rm := rmOf d mc ms) n fx.2.2.1 (tb_in hM.1) rfl rfl rfl (fx.2.2.1 _ hM.2.2.2.2.2.1) (fx.2.2.1 _ hlink) hM.2.2.2.2.1 ⟨by have := fx.2.2.2.2.2.1.1; show d + 1 ≤ _; omega, by have := fx.2.2.2.2.2.1.2.1; have := hM.2.2.2.1; show 8 + (mL M' + 11) + 36 * d ≤ _; omega⟩
  rw [hin.2.2] at hc1
  have hm1 := hcall l dC dI cy b ad H.size
  rw [hin.2.2] at hm1
  exact va_runI (As := as.map (cv b ad)) (rest := st.map (cv b ad)) ⟨fx.1.1, fx.1.2, fx.2.1.2.1, fx.2.1.2.2.1, fx.2.2.1⟩ hm1 ⟨hc1, hin.2.1, fx.2.2.1 _ hin.1⟩ ⟨CP_blind, CP_at (vR a :: as) fx hw hS ha hsz⟩ rfl (by rw [List.length_map]; exact hn) hl.1 (by simp [List.map_reverse, cv, va_rf]) (lv_room (rest_room b ad hst)) hd ⟨by have := fx.2.2.2.2.2.1.2.2.1; omega, by have := fx.2.2.2.2.2.1.2.2.2; omega⟩
theorem go_callIN {M M' : Mth} {n d : Nat} {al : Bool} {bc bs pc mc ms : Nat} {lv : List (Option AV)} {stk : List AV} {w : List AC} {Q Q' : Option AV → List AC → Prop} {idx : Nat} {a : Nat} {host : String} (as st : List AV) (hd : decode (mB M) pc = .ok (.invokespecial idx, 3)) (hM : MK M' n) (hlink : ∀ U : State, NX U → va_Nw (.methodLinkNest (mO M) idx M'.1 host) U) (hin : Cond.instanceMethod M'.1 ∈ tbG ∧ M'.1.name = "<init>" ∧ mT M' = none) (hn : as.length = n) (hst : st.length ≤ 4) (hstk : stk = as.reverse ++ vR a :: st) (hcall : Calls M' d al mc ms (vR a :: as) w Q') (kk : ∀ r w', Q' r w' → Go M (d + 1) al bc bs (pc + 3) lv (r.toList ++ st) w' Q) : Go M (d + 1) al (bc + mc) (bs + ms) pc lv stk w Q := by
  intro p l e R s m args below meth c Fin dC dI cy b ad A MC MS n0 fx H locs cells slots ls hc hs hw hS ha hl
  subst hstk
  refine W_sized (fun hsz => call_after fx hc hs hw hS ha hl (av := (Value.ref (ad a) :: as.map (cv b ad)).toArray) ?_ kk)
  have hc1 := va_cnB (R := R) n fx.2.2.1 (tb_in hM.1) rfl (rm := rmOf d mc ms) rfl rfl (hlink s fx.2.1.2.2.2.2.2) (fx.2.2.1 _ hM.2.2.2.2.2.1) hM.2.2.2.2.1 ⟨by have := fx.2.2.2.2.2.1.1; show d + 1 ≤ _; omega, by have := fx.2.2.2.2.2.1.2.1; have := hM.2.2.2.1; show 8 + (mL M' + 11) + 36 * d ≤ _; omega⟩
  rw [hin.2.2] at hc1
  have hm1 := hcall l dC dI cy b ad H.size
  rw [hin.2.2] at hm1
  exact va_runIN (As := as.map (cv b ad)) (rest := st.map (cv b ad)) ⟨fx.1.1, fx.1.2, fx.2.1.2.1, fx.2.1.2.2.1, fx.2.2.1⟩ hm1 ⟨hc1, hin.2.1, fx.2.2.1 _ hin.1⟩ ⟨CP_blind, CP_at (vR a :: as) fx hw hS ha hsz⟩ rfl (by rw [List.length_map]; exact hn) hl.1 (by simp [List.map_reverse, cv, va_rf]) (lv_room (rest_room b ad hst)) hd ⟨by have := fx.2.2.2.2.2.1.2.2.1; omega, by have := fx.2.2.2.2.2.1.2.2.2; omega⟩
end
