section
-- ===== PART A: goes FIRST, ahead of the names: the tables' words, and 'selects' of the private methods out of them =====
/-- a private method of a class that the tables say can be made, by its rows of tables_1 -/
def lw_okq (q : MethodName × Nat) : Prop := (q.1.cls ≠ "java/lang/invoke/MethodHandle" ∧ q.1.cls ≠ "java/lang/invoke/VarHandle") ∧ Cond.instantiable q.1.cls q.2 ∈ tables_1 ∧ Cond.privateMethod q.1 ∈ tables_1 ∧ Cond.instanceMethod q.1 ∈ tables_1
theorem lw_p0 : lw_okq (⟨"RingBridges", "ringNumbered", "(I)LRingBridges$Ring;"⟩, 4) := ⟨⟨by decide +kernel, by decide +kernel⟩, List.mem_of_getElem? (i := 10) (by decide +kernel), List.mem_of_getElem? (i := 317) (by decide +kernel), List.mem_of_getElem? (i := 318) (by decide +kernel)⟩
theorem lw_p1 : lw_okq (⟨"RingBridges", "ringHolding", "(I)LRingBridges$Ring;"⟩, 4) := ⟨⟨by decide +kernel, by decide +kernel⟩, List.mem_of_getElem? (i := 10) (by decide +kernel), List.mem_of_getElem? (i := 328) (by decide +kernel), List.mem_of_getElem? (i := 329) (by decide +kernel)⟩
theorem lw_p2 : lw_okq (⟨"RingBridges", "forgetStation", "(I)V"⟩, 4) := ⟨⟨by decide +kernel, by decide +kernel⟩, List.mem_of_getElem? (i := 10) (by decide +kernel), List.mem_of_getElem? (i := 365) (by decide +kernel), List.mem_of_getElem? (i := 366) (by decide +kernel)⟩
theorem lw_p3 : lw_okq (⟨"RingBridges", "setRoute", "(III)V"⟩, 4) := ⟨⟨by decide +kernel, by decide +kernel⟩, List.mem_of_getElem? (i := 10) (by decide +kernel), List.mem_of_getElem? (i := 369) (by decide +kernel), List.mem_of_getElem? (i := 370) (by decide +kernel)⟩
theorem lw_p4 : lw_okq (⟨"RingBridges", "knownRoute", "(II)I"⟩, 4) := ⟨⟨by decide +kernel, by decide +kernel⟩, List.mem_of_getElem? (i := 10) (by decide +kernel), List.mem_of_getElem? (i := 399) (by decide +kernel), List.mem_of_getElem? (i := 400) (by decide +kernel)⟩
theorem lw_p5 : lw_okq (⟨"RingBridges", "linkNumbered", "(I)LRingBridges$Link;"⟩, 4) := ⟨⟨by decide +kernel, by decide +kernel⟩, List.mem_of_getElem? (i := 10) (by decide +kernel), List.mem_of_getElem? (i := 423) (by decide +kernel), List.mem_of_getElem? (i := 424) (by decide +kernel)⟩
theorem lw_p6 : lw_okq (⟨"RingBridges", "nodeHolding", "(I)LRingBridges$Node;"⟩, 4) := ⟨⟨by decide +kernel, by decide +kernel⟩, List.mem_of_getElem? (i := 10) (by decide +kernel), List.mem_of_getElem? (i := 452) (by decide +kernel), List.mem_of_getElem? (i := 453) (by decide +kernel)⟩
theorem lw_p7 : lw_okq (⟨"RingBridges", "moveRing", "(LRingBridges$Ring;)V"⟩, 4) := ⟨⟨by decide +kernel, by decide +kernel⟩, List.mem_of_getElem? (i := 10) (by decide +kernel), List.mem_of_getElem? (i := 476) (by decide +kernel), List.mem_of_getElem? (i := 477) (by decide +kernel)⟩
theorem lw_p8 : lw_okq (⟨"RingBridges$Signal", "clearMarks", "()V"⟩, 8) := ⟨⟨by decide +kernel, by decide +kernel⟩, List.mem_of_getElem? (i := 114) (by decide +kernel), List.mem_of_getElem? (i := 521) (by decide +kernel), List.mem_of_getElem? (i := 522) (by decide +kernel)⟩
theorem lw_p9 : lw_okq (⟨"RingBridges", "meetFrame", "(LRingBridges$Ring;LRingBridges$Node;)V"⟩, 4) := ⟨⟨by decide +kernel, by decide +kernel⟩, List.mem_of_getElem? (i := 10) (by decide +kernel), List.mem_of_getElem? (i := 530) (by decide +kernel), List.mem_of_getElem? (i := 531) (by decide +kernel)⟩
theorem lw_p10 : lw_okq (⟨"RingBridges", "receive", "(LRingBridges$Ring;LRingBridges$Node;)Z"⟩, 4) := ⟨⟨by decide +kernel, by decide +kernel⟩, List.mem_of_getElem? (i := 10) (by decide +kernel), List.mem_of_getElem? (i := 547) (by decide +kernel), List.mem_of_getElem? (i := 548) (by decide +kernel)⟩
theorem lw_p11 : lw_okq (⟨"RingBridges", "spreadFrame", "(LRingBridges$Ring;LRingBridges$Node;LRingBridges$Frame;)Z"⟩, 4) := ⟨⟨by decide +kernel, by decide +kernel⟩, List.mem_of_getElem? (i := 10) (by decide +kernel), List.mem_of_getElem? (i := 551) (by decide +kernel), List.mem_of_getElem? (i := 552) (by decide +kernel)⟩
theorem lw_p12 : lw_okq (⟨"RingBridges", "ringBeyond", "(LRingBridges$Ring;I)LRingBridges$Ring;"⟩, 4) := ⟨⟨by decide +kernel, by decide +kernel⟩, List.mem_of_getElem? (i := 10) (by decide +kernel), List.mem_of_getElem? (i := 555) (by decide +kernel), List.mem_of_getElem? (i := 556) (by decide +kernel)⟩
theorem lw_p13 : lw_okq (⟨"RingBridges", "carryFrame", "(LRingBridges$Ring;LRingBridges$Node;LRingBridges$Frame;)Z"⟩, 4) := ⟨⟨by decide +kernel, by decide +kernel⟩, List.mem_of_getElem? (i := 10) (by decide +kernel), List.mem_of_getElem? (i := 566) (by decide +kernel), List.mem_of_getElem? (i := 567) (by decide +kernel)⟩
theorem lw_p14 : lw_okq (⟨"RingBridges", "learnRoute", "(LRingBridges$Frame;)V"⟩, 4) := ⟨⟨by decide +kernel, by decide +kernel⟩, List.mem_of_getElem? (i := 10) (by decide +kernel), List.mem_of_getElem? (i := 579) (by decide +kernel), List.mem_of_getElem? (i := 580) (by decide +kernel)⟩
theorem lw_p15 : lw_okq (⟨"RingBridges", "useFrame", "(LRingBridges$Node;LRingBridges$Frame;)V"⟩, 4) := ⟨⟨by decide +kernel, by decide +kernel⟩, List.mem_of_getElem? (i := 10) (by decide +kernel), List.mem_of_getElem? (i := 583) (by decide +kernel), List.mem_of_getElem? (i := 584) (by decide +kernel)⟩
def lw_privs_1 : List (MethodName × Nat) := [(⟨"RingBridges", "ringNumbered", "(I)LRingBridges$Ring;"⟩, 4), (⟨"RingBridges", "ringHolding", "(I)LRingBridges$Ring;"⟩, 4), (⟨"RingBridges", "forgetStation", "(I)V"⟩, 4), (⟨"RingBridges", "setRoute", "(III)V"⟩, 4), (⟨"RingBridges", "knownRoute", "(II)I"⟩, 4), (⟨"RingBridges", "linkNumbered", "(I)LRingBridges$Link;"⟩, 4), (⟨"RingBridges", "nodeHolding", "(I)LRingBridges$Node;"⟩, 4), (⟨"RingBridges", "moveRing", "(LRingBridges$Ring;)V"⟩, 4), (⟨"RingBridges$Signal", "clearMarks", "()V"⟩, 8), (⟨"RingBridges", "meetFrame", "(LRingBridges$Ring;LRingBridges$Node;)V"⟩, 4), (⟨"RingBridges", "receive", "(LRingBridges$Ring;LRingBridges$Node;)Z"⟩, 4), (⟨"RingBridges", "spreadFrame", "(LRingBridges$Ring;LRingBridges$Node;LRingBridges$Frame;)Z"⟩, 4), (⟨"RingBridges", "ringBeyond", "(LRingBridges$Ring;I)LRingBridges$Ring;"⟩, 4), (⟨"RingBridges", "carryFrame", "(LRingBridges$Ring;LRingBridges$Node;LRingBridges$Frame;)Z"⟩, 4), (⟨"RingBridges", "learnRoute", "(LRingBridges$Frame;)V"⟩, 4), (⟨"RingBridges", "useFrame", "(LRingBridges$Node;LRingBridges$Frame;)V"⟩, 4)]
theorem lw_r1 : ∀ q ∈ lw_privs_1, lw_okq q := List.forall_mem_cons.mpr ⟨lw_p0, List.forall_mem_cons.mpr ⟨lw_p1, List.forall_mem_cons.mpr ⟨lw_p2, List.forall_mem_cons.mpr ⟨lw_p3, List.forall_mem_cons.mpr ⟨lw_p4, List.forall_mem_cons.mpr ⟨lw_p5, List.forall_mem_cons.mpr ⟨lw_p6, List.forall_mem_cons.mpr ⟨lw_p7, List.forall_mem_cons.mpr ⟨lw_p8, List.forall_mem_cons.mpr ⟨lw_p9, List.forall_mem_cons.mpr ⟨lw_p10, List.forall_mem_cons.mpr ⟨lw_p11, List.forall_mem_cons.mpr ⟨lw_p12, List.forall_mem_cons.mpr ⟨lw_p13, List.forall_mem_cons.mpr ⟨lw_p14, List.forall_mem_cons.mpr ⟨lw_p15, fun _ h => absurd h List.not_mem_nil⟩⟩⟩⟩⟩⟩⟩⟩⟩⟩⟩⟩⟩⟩⟩⟩
theorem lw_p16 : lw_okq (⟨"RingBridges", "queueData", "(LRingBridges$Link;)V"⟩, 4) := ⟨⟨by decide +kernel, by decide +kernel⟩, List.mem_of_getElem? (i := 10) (by decide +kernel), List.mem_of_getElem? (i := 611) (by decide +kernel), List.mem_of_getElem? (i := 612) (by decide +kernel)⟩
theorem lw_p17 : lw_okq (⟨"RingBridgesModel", "move", "(I)V"⟩, 55) := ⟨⟨by decide +kernel, by decide +kernel⟩, List.mem_of_getElem? (i := 643) (by decide +kernel), List.mem_of_getElem? (i := 820) (by decide +kernel), List.mem_of_getElem? (i := 821) (by decide +kernel)⟩
theorem lw_p18 : lw_okq (⟨"RingBridgesModel", "nodeAt", "(II)I"⟩, 55) := ⟨⟨by decide +kernel, by decide +kernel⟩, List.mem_of_getElem? (i := 643) (by decide +kernel), List.mem_of_getElem? (i := 824) (by decide +kernel), List.mem_of_getElem? (i := 825) (by decide +kernel)⟩
theorem lw_p19 : lw_okq (⟨"RingBridgesModel", "purge", "(I)V"⟩, 55) := ⟨⟨by decide +kernel, by decide +kernel⟩, List.mem_of_getElem? (i := 643) (by decide +kernel), List.mem_of_getElem? (i := 828) (by decide +kernel), List.mem_of_getElem? (i := 829) (by decide +kernel)⟩
theorem lw_p20 : lw_okq (⟨"RingBridgesModel", "nodeWith", "(II)I"⟩, 55) := ⟨⟨by decide +kernel, by decide +kernel⟩, List.mem_of_getElem? (i := 643) (by decide +kernel), List.mem_of_getElem? (i := 832) (by decide +kernel), List.mem_of_getElem? (i := 833) (by decide +kernel)⟩
theorem lw_p21 : lw_okq (⟨"RingBridgesModel", "behind", "(I)I"⟩, 55) := ⟨⟨by decide +kernel, by decide +kernel⟩, List.mem_of_getElem? (i := 643) (by decide +kernel), List.mem_of_getElem? (i := 839) (by decide +kernel), List.mem_of_getElem? (i := 840) (by decide +kernel)⟩
theorem lw_p22 : lw_okq (⟨"RingBridgesModel", "token", "(II)V"⟩, 55) := ⟨⟨by decide +kernel, by decide +kernel⟩, List.mem_of_getElem? (i := 643) (by decide +kernel), List.mem_of_getElem? (i := 843) (by decide +kernel), List.mem_of_getElem? (i := 844) (by decide +kernel)⟩
theorem lw_p23 : lw_okq (⟨"RingBridgesModel", "watch", "(II)Z"⟩, 55) := ⟨⟨by decide +kernel, by decide +kernel⟩, List.mem_of_getElem? (i := 643) (by decide +kernel), List.mem_of_getElem? (i := 847) (by decide +kernel), List.mem_of_getElem? (i := 848) (by decide +kernel)⟩
theorem lw_p24 : lw_okq (⟨"RingBridgesModel", "wish", "(I)I"⟩, 55) := ⟨⟨by decide +kernel, by decide +kernel⟩, List.mem_of_getElem? (i := 643) (by decide +kernel), List.mem_of_getElem? (i := 851) (by decide +kernel), List.mem_of_getElem? (i := 852) (by decide +kernel)⟩
theorem lw_p25 : lw_okq (⟨"RingBridgesModel", "copyFrame", "(II)V"⟩, 55) := ⟨⟨by decide +kernel, by decide +kernel⟩, List.mem_of_getElem? (i := 643) (by decide +kernel), List.mem_of_getElem? (i := 855) (by decide +kernel), List.mem_of_getElem? (i := 856) (by decide +kernel)⟩
theorem lw_p26 : lw_okq (⟨"RingBridgesModel", "frame", "(II)V"⟩, 55) := ⟨⟨by decide +kernel, by decide +kernel⟩, List.mem_of_getElem? (i := 643) (by decide +kernel), List.mem_of_getElem? (i := 859) (by decide +kernel), List.mem_of_getElem? (i := 860) (by decide +kernel)⟩
theorem lw_p27 : lw_okq (⟨"RingBridgesModel", "setToken", "(III)V"⟩, 55) := ⟨⟨by decide +kernel, by decide +kernel⟩, List.mem_of_getElem? (i := 643) (by decide +kernel), List.mem_of_getElem? (i := 863) (by decide +kernel), List.mem_of_getElem? (i := 864) (by decide +kernel)⟩
theorem lw_p28 : lw_okq (⟨"RingBridgesModel", "receive", "(II)V"⟩, 55) := ⟨⟨by decide +kernel, by decide +kernel⟩, List.mem_of_getElem? (i := 643) (by decide +kernel), List.mem_of_getElem? (i := 867) (by decide +kernel), List.mem_of_getElem? (i := 868) (by decide +kernel)⟩
theorem lw_p29 : lw_okq (⟨"RingBridgesModel", "queueNew", "(I)V"⟩, 55) := ⟨⟨by decide +kernel, by decide +kernel⟩, List.mem_of_getElem? (i := 643) (by decide +kernel), List.mem_of_getElem? (i := 874) (by decide +kernel), List.mem_of_getElem? (i := 875) (by decide +kernel)⟩
theorem lw_p30 : lw_okq (⟨"RingBridgesModel", "makeFrame", "(IIIIII)V"⟩, 55) := ⟨⟨by decide +kernel, by decide +kernel⟩, List.mem_of_getElem? (i := 643) (by decide +kernel), List.mem_of_getElem? (i := 878) (by decide +kernel), List.mem_of_getElem? (i := 879) (by decide +kernel)⟩
theorem lw_p31 : lw_okq (⟨"RingBridgesModel", "accept", "(III)V"⟩, 55) := ⟨⟨by decide +kernel, by decide +kernel⟩, List.mem_of_getElem? (i := 643) (by decide +kernel), List.mem_of_getElem? (i := 882) (by decide +kernel), List.mem_of_getElem? (i := 883) (by decide +kernel)⟩
def lw_privs_2 : List (MethodName × Nat) := [(⟨"RingBridges", "queueData", "(LRingBridges$Link;)V"⟩, 4), (⟨"RingBridgesModel", "move", "(I)V"⟩, 55), (⟨"RingBridgesModel", "nodeAt", "(II)I"⟩, 55), (⟨"RingBridgesModel", "purge", "(I)V"⟩, 55), (⟨"RingBridgesModel", "nodeWith", "(II)I"⟩, 55), (⟨"RingBridgesModel", "behind", "(I)I"⟩, 55), (⟨"RingBridgesModel", "token", "(II)V"⟩, 55), (⟨"RingBridgesModel", "watch", "(II)Z"⟩, 55), (⟨"RingBridgesModel", "wish", "(I)I"⟩, 55), (⟨"RingBridgesModel", "copyFrame", "(II)V"⟩, 55), (⟨"RingBridgesModel", "frame", "(II)V"⟩, 55), (⟨"RingBridgesModel", "setToken", "(III)V"⟩, 55), (⟨"RingBridgesModel", "receive", "(II)V"⟩, 55), (⟨"RingBridgesModel", "queueNew", "(I)V"⟩, 55), (⟨"RingBridgesModel", "makeFrame", "(IIIIII)V"⟩, 55), (⟨"RingBridgesModel", "accept", "(III)V"⟩, 55)]
theorem lw_r2 : ∀ q ∈ lw_privs_2, lw_okq q := List.forall_mem_cons.mpr ⟨lw_p16, List.forall_mem_cons.mpr ⟨lw_p17, List.forall_mem_cons.mpr ⟨lw_p18, List.forall_mem_cons.mpr ⟨lw_p19, List.forall_mem_cons.mpr ⟨lw_p20, List.forall_mem_cons.mpr ⟨lw_p21, List.forall_mem_cons.mpr ⟨lw_p22, List.forall_mem_cons.mpr ⟨lw_p23, List.forall_mem_cons.mpr ⟨lw_p24, List.forall_mem_cons.mpr ⟨lw_p25, List.forall_mem_cons.mpr ⟨lw_p26, List.forall_mem_cons.mpr ⟨lw_p27, List.forall_mem_cons.mpr ⟨lw_p28, List.forall_mem_cons.mpr ⟨lw_p29, List.forall_mem_cons.mpr ⟨lw_p30, List.forall_mem_cons.mpr ⟨lw_p31, fun _ h => absurd h List.not_mem_nil⟩⟩⟩⟩⟩⟩⟩⟩⟩⟩⟩⟩⟩⟩⟩⟩
theorem lw_p32 : lw_okq (⟨"RingBridgesModel", "answer", "(II)V"⟩, 55) := ⟨⟨by decide +kernel, by decide +kernel⟩, List.mem_of_getElem? (i := 643) (by decide +kernel), List.mem_of_getElem? (i := 886) (by decide +kernel), List.mem_of_getElem? (i := 887) (by decide +kernel)⟩
theorem lw_p33 : lw_okq (⟨"RingBridgesModel", "heard", "(III)V"⟩, 55) := ⟨⟨by decide +kernel, by decide +kernel⟩, List.mem_of_getElem? (i := 643) (by decide +kernel), List.mem_of_getElem? (i := 890) (by decide +kernel), List.mem_of_getElem? (i := 891) (by decide +kernel)⟩
theorem lw_p34 : lw_okq (⟨"RingBridgesModel", "connect", "(I)V"⟩, 55) := ⟨⟨by decide +kernel, by decide +kernel⟩, List.mem_of_getElem? (i := 643) (by decide +kernel), List.mem_of_getElem? (i := 894) (by decide +kernel), List.mem_of_getElem? (i := 895) (by decide +kernel)⟩
theorem lw_p35 : lw_okq (⟨"RingBridgesModel", "isStation", "(I)Z"⟩, 55) := ⟨⟨by decide +kernel, by decide +kernel⟩, List.mem_of_getElem? (i := 643) (by decide +kernel), List.mem_of_getElem? (i := 908) (by decide +kernel), List.mem_of_getElem? (i := 909) (by decide +kernel)⟩
theorem lw_p36 : lw_okq (⟨"RingBridgesModel", "come", "(II)V"⟩, 55) := ⟨⟨by decide +kernel, by decide +kernel⟩, List.mem_of_getElem? (i := 643) (by decide +kernel), List.mem_of_getElem? (i := 912) (by decide +kernel), List.mem_of_getElem? (i := 913) (by decide +kernel)⟩
theorem lw_p37 : lw_okq (⟨"RingBridgesModel", "go", "(I)V"⟩, 55) := ⟨⟨by decide +kernel, by decide +kernel⟩, List.mem_of_getElem? (i := 643) (by decide +kernel), List.mem_of_getElem? (i := 924) (by decide +kernel), List.mem_of_getElem? (i := 925) (by decide +kernel)⟩
def lw_privs_3 : List (MethodName × Nat) := [(⟨"RingBridgesModel", "answer", "(II)V"⟩, 55), (⟨"RingBridgesModel", "heard", "(III)V"⟩, 55), (⟨"RingBridgesModel", "connect", "(I)V"⟩, 55), (⟨"RingBridgesModel", "isStation", "(I)Z"⟩, 55), (⟨"RingBridgesModel", "come", "(II)V"⟩, 55), (⟨"RingBridgesModel", "go", "(I)V"⟩, 55)]
theorem lw_r3 : ∀ q ∈ lw_privs_3, lw_okq q := List.forall_mem_cons.mpr ⟨lw_p32, List.forall_mem_cons.mpr ⟨lw_p33, List.forall_mem_cons.mpr ⟨lw_p34, List.forall_mem_cons.mpr ⟨lw_p35, List.forall_mem_cons.mpr ⟨lw_p36, List.forall_mem_cons.mpr ⟨lw_p37, fun _ h => absurd h List.not_mem_nil⟩⟩⟩⟩⟩⟩
def lw_privs : List (MethodName × Nat) := lw_privs_1 ++ (lw_privs_2 ++ (lw_privs_3))
def lw_tbl : List Cond := k2_sels lw_privs ++ tables_1
theorem lw_privs_ok : ∀ q ∈ lw_privs, lw_okq q := by
  show ∀ q ∈ lw_privs_1 ++ (lw_privs_2 ++ (lw_privs_3)), lw_okq q
  exact List.forall_mem_append.mpr ⟨lw_r1, List.forall_mem_append.mpr ⟨lw_r2, lw_r3⟩⟩
end
section
/-! tables of the program, printed by wip/whole/gen.py out of the listing of its bytecode: classes, methods, instructions with their operands resolved, the words that they want -/
abbrev rb_I : Type := Jvm.ClassFile.Instr × Nat × Nat × Nat × Int32
def rb_T0 : u_T := fun k => match k with
  | 0 => ("RingBridges", "rings", "[LRingBridges$Ring;", true)
  | 1 => ("RingBridges", "links", "[LRingBridges$Link;", true)
  | 2 => ("RingBridges", "routes", "[[I", true)
  | _ => ("RingBridges", "ticks", "I", false)
def rb_t0 : Nat → FieldType := fun k => match k with
  | 0 => .array (.object "RingBridges$Ring")
  | 1 => .array (.object "RingBridges$Link")
  | 2 => .array (.array .int)
  | _ => .int
def rb_T1 : u_T := fun k => match k with
  | 0 => ("RingBridges$Ring", "number", "I", true)
  | 1 => ("RingBridges$Ring", "nodes", "[LRingBridges$Node;", true)
  | 2 => ("RingBridges$Ring", "signal", "LRingBridges$Signal;", true)
  | 3 => ("RingBridges$Ring", "size", "I", false)
  | 4 => ("RingBridges$Ring", "at", "I", false)
  | 5 => ("RingBridges$Ring", "quiet", "I", false)
  | 6 => ("RingBridges$Ring", "monitor", "I", false)
  | 7 => ("RingBridges$Ring", "purges", "I", false)
  | 8 => ("RingBridges$Ring", "sent", "I", false)
  | _ => ("RingBridges$Ring", "lost", "I", false)
def rb_t1 : Nat → FieldType := fun k => match k with
  | 0 => .int
  | 1 => .array (.object "RingBridges$Node")
  | 2 => .object "RingBridges$Signal"
  | 3 => .int
  | 4 => .int
  | 5 => .int
  | 6 => .int
  | 7 => .int
  | 8 => .int
  | _ => .int
def rb_T2 : u_T := fun k => match k with
  | 0 => ("RingBridges$Node", "queue", "[LRingBridges$Frame;", true)
  | 1 => ("RingBridges$Node", "lowers", "[I", true)
  | 2 => ("RingBridges$Node", "uppers", "[I", true)
  | 3 => ("RingBridges$Node", "address", "I", false)
  | 4 => ("RingBridges$Node", "head", "I", false)
  | 5 => ("RingBridges$Node", "waiting", "I", false)
  | _ => ("RingBridges$Node", "depth", "I", false)
def rb_t2 : Nat → FieldType := fun k => match k with
  | 0 => .array (.object "RingBridges$Frame")
  | 1 => .array .int
  | 2 => .array .int
  | 3 => .int
  | 4 => .int
  | 5 => .int
  | _ => .int
def rb_T3 : u_T := fun k => match k with
  | 0 => ("RingBridges$Frame", "kind", "I", false)
  | 1 => ("RingBridges$Frame", "priority", "I", false)
  | 2 => ("RingBridges$Frame", "from", "I", false)
  | 3 => ("RingBridges$Frame", "to", "I", false)
  | 4 => ("RingBridges$Frame", "route", "I", false)
  | 5 => ("RingBridges$Frame", "path", "I", false)
  | 6 => ("RingBridges$Frame", "visited", "I", false)
  | 7 => ("RingBridges$Frame", "connection", "I", false)
  | 8 => ("RingBridges$Frame", "opening", "I", false)
  | 9 => ("RingBridges$Frame", "number", "I", false)
  | _ => ("RingBridges$Frame", "value", "I", false)
def rb_t3 : Nat → FieldType := fun k => match k with
  | 0 => .int
  | 1 => .int
  | 2 => .int
  | 3 => .int
  | 4 => .int
  | 5 => .int
  | 6 => .int
  | 7 => .int
  | 8 => .int
  | 9 => .int
  | _ => .int
def rb_T4 : u_T := fun k => match k with
  | 0 => ("RingBridges$Signal", "frame", "LRingBridges$Frame;", true)
  | 1 => ("RingBridges$Signal", "kind", "I", false)
  | 2 => ("RingBridges$Signal", "priority", "I", false)
  | 3 => ("RingBridges$Signal", "reserved", "I", false)
  | 4 => ("RingBridges$Signal", "address", "I", false)
  | 5 => ("RingBridges$Signal", "seen", "Z", false)
  | 6 => ("RingBridges$Signal", "bad", "Z", false)
  | _ => ("RingBridges$Signal", "copied", "Z", false)
def rb_t4 : Nat → FieldType := fun k => match k with
  | 0 => .object "RingBridges$Frame"
  | 1 => .int
  | 2 => .int
  | 3 => .int
  | 4 => .int
  | 5 => .boolean
  | 6 => .boolean
  | _ => .boolean
def rb_T5 : u_T := fun k => match k with
  | 0 => ("RingBridges$Link", "number", "I", true)
  | 1 => ("RingBridges$Link", "offered", "LRingBridges$ByteRow;", true)
  | 2 => ("RingBridges$Link", "inbox", "LRingBridges$ByteRow;", true)
  | 3 => ("RingBridges$Link", "state", "I", false)
  | 4 => ("RingBridges$Link", "opening", "I", false)
  | 5 => ("RingBridges$Link", "from", "I", false)
  | 6 => ("RingBridges$Link", "to", "I", false)
  | 7 => ("RingBridges$Link", "priority", "I", false)
  | 8 => ("RingBridges$Link", "route", "I", false)
  | 9 => ("RingBridges$Link", "first", "I", false)
  | 10 => ("RingBridges$Link", "sent", "I", false)
  | 11 => ("RingBridges$Link", "timer", "I", false)
  | 12 => ("RingBridges$Link", "tries", "I", false)
  | 13 => ("RingBridges$Link", "expected", "I", false)
  | 14 => ("RingBridges$Link", "waiting", "Z", false)
  | 15 => ("RingBridges$Link", "complaining", "Z", false)
  | _ => ("RingBridges$Link", "puttingOff", "Z", false)
def rb_t5 : Nat → FieldType := fun k => match k with
  | 0 => .int
  | 1 => .object "RingBridges$ByteRow"
  | 2 => .object "RingBridges$ByteRow"
  | 3 => .int
  | 4 => .int
  | 5 => .int
  | 6 => .int
  | 7 => .int
  | 8 => .int
  | 9 => .int
  | 10 => .int
  | 11 => .int
  | 12 => .int
  | 13 => .int
  | 14 => .boolean
  | 15 => .boolean
  | _ => .boolean
def rb_T6 : u_T := fun k => match k with
  | 0 => ("RingBridges$ByteRow", "values", "[I", true)
  | 1 => ("RingBridges$ByteRow", "mask", "I", true)
  | 2 => ("RingBridges$ByteRow", "start", "I", false)
  | _ => ("RingBridges$ByteRow", "size", "I", false)
def rb_t6 : Nat → FieldType := fun k => match k with
  | 0 => .array .int
  | 1 => .int
  | 2 => .int
  | _ => .int
def rb_T7 : u_T := fun k => match k with
  | 0 => ("RingBridgesModel", "place", "[I", false)
  | 1 => ("RingBridgesModel", "members", "[I", false)
  | 2 => ("RingBridgesModel", "here", "[Z", false)
  | 3 => ("RingBridgesModel", "ringOf", "[I", false)
  | 4 => ("RingBridgesModel", "waits", "[I", false)
  | 5 => ("RingBridgesModel", "pairs", "[I", false)
  | 6 => ("RingBridgesModel", "lower", "[I", false)
  | 7 => ("RingBridgesModel", "upper", "[I", false)
  | 8 => ("RingBridgesModel", "kind", "[I", false)
  | 9 => ("RingBridgesModel", "own", "[I", false)
  | 10 => ("RingBridgesModel", "from", "[I", false)
  | 11 => ("RingBridgesModel", "to", "[I", false)
  | 12 => ("RingBridgesModel", "first", "[I", false)
  | 13 => ("RingBridgesModel", "second", "[I", false)
  | 14 => ("RingBridgesModel", "pathA", "[I", false)
  | 15 => ("RingBridgesModel", "pathB", "[I", false)
  | 16 => ("RingBridgesModel", "rings", "[I", false)
  | 17 => ("RingBridgesModel", "link", "[I", false)
  | 18 => ("RingBridgesModel", "opening", "[I", false)
  | 19 => ("RingBridgesModel", "number", "[I", false)
  | 20 => ("RingBridgesModel", "load", "[I", false)
  | 21 => ("RingBridgesModel", "signalOf", "[I", false)
  | 22 => ("RingBridgesModel", "at", "[I", false)
  | 23 => ("RingBridgesModel", "quiet", "[I", false)
  | 24 => ("RingBridgesModel", "priority", "[I", false)
  | 25 => ("RingBridgesModel", "reserved", "[I", false)
  | 26 => ("RingBridgesModel", "seen", "[Z", false)
  | 27 => ("RingBridgesModel", "bad", "[Z", false)
  | 28 => ("RingBridgesModel", "copied", "[Z", false)
  | 29 => ("RingBridgesModel", "addressed", "[I", false)
  | 30 => ("RingBridgesModel", "monitorOf", "[I", false)
  | 31 => ("RingBridgesModel", "counts", "[I", false)
  | 32 => ("RingBridgesModel", "known", "[Z", false)
  | 33 => ("RingBridgesModel", "routeA", "[I", false)
  | 34 => ("RingBridgesModel", "routeB", "[I", false)
  | 35 => ("RingBridgesModel", "stateOf", "[I", false)
  | 36 => ("RingBridgesModel", "fromOf", "[I", false)
  | 37 => ("RingBridgesModel", "toOf", "[I", false)
  | 38 => ("RingBridgesModel", "ownOf", "[I", false)
  | 39 => ("RingBridgesModel", "wayA", "[I", false)
  | 40 => ("RingBridgesModel", "wayB", "[I", false)
  | 41 => ("RingBridgesModel", "openings", "[I", false)
  | 42 => ("RingBridgesModel", "firstOf", "[I", false)
  | 43 => ("RingBridgesModel", "sentOf", "[I", false)
  | 44 => ("RingBridgesModel", "offeredOf", "[I", false)
  | 45 => ("RingBridgesModel", "offered", "[I", false)
  | 46 => ("RingBridgesModel", "waiting", "[Z", false)
  | 47 => ("RingBridgesModel", "timers", "[I", false)
  | 48 => ("RingBridgesModel", "triesOf", "[I", false)
  | 49 => ("RingBridgesModel", "expectedOf", "[I", false)
  | 50 => ("RingBridgesModel", "inboxOf", "[I", false)
  | 51 => ("RingBridgesModel", "inbox", "[I", false)
  | 52 => ("RingBridgesModel", "complains", "[Z", false)
  | 53 => ("RingBridgesModel", "putsOff", "[Z", false)
  | _ => ("RingBridgesModel", "ticks", "I", false)
def rb_t7 : Nat → FieldType := fun k => match k with
  | 0 => .array .int
  | 1 => .array .int
  | 2 => .array .boolean
  | 3 => .array .int
  | 4 => .array .int
  | 5 => .array .int
  | 6 => .array .int
  | 7 => .array .int
  | 8 => .array .int
  | 9 => .array .int
  | 10 => .array .int
  | 11 => .array .int
  | 12 => .array .int
  | 13 => .array .int
  | 14 => .array .int
  | 15 => .array .int
  | 16 => .array .int
  | 17 => .array .int
  | 18 => .array .int
  | 19 => .array .int
  | 20 => .array .int
  | 21 => .array .int
  | 22 => .array .int
  | 23 => .array .int
  | 24 => .array .int
  | 25 => .array .int
  | 26 => .array .boolean
  | 27 => .array .boolean
  | 28 => .array .boolean
  | 29 => .array .int
  | 30 => .array .int
  | 31 => .array .int
  | 32 => .array .boolean
  | 33 => .array .int
  | 34 => .array .int
  | 35 => .array .int
  | 36 => .array .int
  | 37 => .array .int
  | 38 => .array .int
  | 39 => .array .int
  | 40 => .array .int
  | 41 => .array .int
  | 42 => .array .int
  | 43 => .array .int
  | 44 => .array .int
  | 45 => .array .int
  | 46 => .array .boolean
  | 47 => .array .int
  | 48 => .array .int
  | 49 => .array .int
  | 50 => .array .int
  | 51 => .array .int
  | 52 => .array .boolean
  | 53 => .array .boolean
  | _ => .int
def rb_cl : List vw_C := [("RingBridges", rb_T0, 4), ("RingBridges$Ring", rb_T1, 10), ("RingBridges$Node", rb_T2, 7), ("RingBridges$Frame", rb_T3, 11), ("RingBridges$Signal", rb_T4, 8), ("RingBridges$Link", rb_T5, 17), ("RingBridges$ByteRow", rb_T6, 4), ("RingBridgesModel", rb_T7, 55)]
def rb_tt (c : Nat) : Nat → FieldType := match c with
  | 0 => rb_t0
  | 1 => rb_t1
  | 2 => rb_t2
  | 3 => rb_t3
  | 4 => rb_t4
  | 5 => rb_t5
  | 6 => rb_t6
  | 7 => rb_t7
  | _ => rb_t0
def rb_df (c : Nat) : List Value := match c with
  | 0 => [.null, .null, .null, .int 0]
  | 1 => [.int 0, .null, .null, .int 0, .int 0, .int 0, .int 0, .int 0, .int 0, .int 0]
  | 2 => [.null, .null, .null, .int 0, .int 0, .int 0, .int 0]
  | 3 => [.int 0, .int 0, .int 0, .int 0, .int 0, .int 0, .int 0, .int 0, .int 0, .int 0, .int 0]
  | 4 => [.null, .int 0, .int 0, .int 0, .int 0, .int 0, .int 0, .int 0]
  | 5 => [.int 0, .null, .null, .int 0, .int 0, .int 0, .int 0, .int 0, .int 0, .int 0, .int 0, .int 0, .int 0, .int 0, .int 0, .int 0, .int 0]
  | 6 => [.null, .int 0, .int 0, .int 0]
  | 7 => [.null, .null, .null, .null, .null, .null, .null, .null, .null, .null, .null, .null, .null, .null, .null, .null, .null, .null, .null, .null, .null, .null, .null, .null, .null, .null, .null, .null, .null, .null, .null, .null, .null, .null, .null, .null, .null, .null, .null, .null, .null, .null, .null, .null, .null, .null, .null, .null, .null, .null, .null, .null, .null, .null, .int 0]
  | _ => []
def rb_aty (t : Nat) : FieldType := match t with
  | 0 => .int
  | 1 => .boolean
  | 2 => .object "RingBridges$Ring"
  | 3 => .object "RingBridges$Node"
  | 4 => .object "RingBridges$Frame"
  | 5 => .object "RingBridges$Link"
  | 6 => .array .int
  | _ => .int
def rb_el (t : Nat) : Option Nat := match t with
  | 2 => some 1
  | 3 => some 2
  | 4 => some 3
  | 5 => some 5
  | _ => none
def rb_aos : List String := ["RingBridges$Ring", "RingBridges$Node", "RingBridges$Frame", "RingBridges$Link"]
def rb_mt : List (MethodName × ByteArray × Nat × Option FieldType × Nat) := [(⟨"RingBridges", "<init>", "()V"⟩, prog_1_method_1_code, 3, none, 0),
  (⟨"RingBridges", "join", "(II)Z"⟩, prog_1_method_2_code, 4, some (.boolean), 0),
  (⟨"RingBridges", "bridge", "(III)Z"⟩, prog_1_method_3_code, 7, some (.boolean), 0),
  (⟨"RingBridges", "leave", "(I)Z"⟩, prog_1_method_4_code, 5, some (.boolean), 0),
  (⟨"RingBridges", "damage", "(I)Z"⟩, prog_1_method_5_code, 3, some (.boolean), 0),
  (⟨"RingBridges", "explore", "(II)Z"⟩, prog_1_method_6_code, 5, some (.boolean), 0),
  (⟨"RingBridges", "forget", "(II)Z"⟩, prog_1_method_7_code, 3, some (.boolean), 0),
  (⟨"RingBridges", "route", "(II)I"⟩, prog_1_method_8_code, 3, some (.int), 0),
  (⟨"RingBridges", "open", "(III)I"⟩, prog_1_method_9_code, 9, some (.int), 0),
  (⟨"RingBridges", "close", "(I)Z"⟩, prog_1_method_10_code, 3, some (.boolean), 0),
  (⟨"RingBridges", "offer", "(II)Z"⟩, prog_1_method_11_code, 4, some (.boolean), 0),
  (⟨"RingBridges", "take", "(I)I"⟩, prog_1_method_12_code, 5, some (.int), 0),
  (⟨"RingBridges", "tick", "(I)I"⟩, prog_1_method_13_code, 4, some (.int), 0),
  (⟨"RingBridges", "signal", "(I)I"⟩, prog_1_method_14_code, 3, some (.int), 0),
  (⟨"RingBridges", "at", "(I)I"⟩, prog_1_method_15_code, 3, some (.int), 0),
  (⟨"RingBridges", "monitor", "(I)I"⟩, prog_1_method_16_code, 3, some (.int), 0),
  (⟨"RingBridges", "node", "(III)I"⟩, prog_1_method_17_code, 6, some (.int), 0),
  (⟨"RingBridges", "count", "(II)I"⟩, prog_1_method_18_code, 4, some (.int), 0),
  (⟨"RingBridges", "connection", "(II)I"⟩, prog_1_method_19_code, 4, some (.int), 0),
  (⟨"RingBridges", "isStationAddress", "(I)Z"⟩, prog_1_method_20_code, 1, some (.boolean), 0),
  (⟨"RingBridges", "ringNumbered", "(I)LRingBridges$Ring;"⟩, prog_1_method_21_code, 2, some (.object "RingBridges$Ring"), 0),
  (⟨"RingBridges", "linkNumbered", "(I)LRingBridges$Link;"⟩, prog_1_method_22_code, 2, some (.object "RingBridges$Link"), 0),
  (⟨"RingBridges", "ringHolding", "(I)LRingBridges$Ring;"⟩, prog_1_method_23_code, 3, some (.object "RingBridges$Ring"), 0),
  (⟨"RingBridges", "nodeHolding", "(I)LRingBridges$Node;"⟩, prog_1_method_24_code, 4, some (.object "RingBridges$Node"), 0),
  (⟨"RingBridges", "ringBeyond", "(LRingBridges$Ring;I)LRingBridges$Ring;"⟩, prog_1_method_25_code, 4, some (.object "RingBridges$Ring"), 0),
  (⟨"RingBridges", "knownRoute", "(II)I"⟩, prog_1_method_26_code, 3, some (.int), 0),
  (⟨"RingBridges", "setRoute", "(III)V"⟩, prog_1_method_27_code, 4, none, 0),
  (⟨"RingBridges", "forgetStation", "(I)V"⟩, prog_1_method_28_code, 4, none, 0),
  (⟨"RingBridges", "moveRing", "(LRingBridges$Ring;)V"⟩, prog_1_method_29_code, 4, none, 0),
  (⟨"RingBridges", "meetFrame", "(LRingBridges$Ring;LRingBridges$Node;)V"⟩, prog_1_method_30_code, 4, none, 0),
  (⟨"RingBridges", "receive", "(LRingBridges$Ring;LRingBridges$Node;)Z"⟩, prog_1_method_31_code, 4, some (.boolean), 0),
  (⟨"RingBridges", "carryFrame", "(LRingBridges$Ring;LRingBridges$Node;LRingBridges$Frame;)Z"⟩, prog_1_method_32_code, 6, some (.boolean), 0),
  (⟨"RingBridges", "spreadFrame", "(LRingBridges$Ring;LRingBridges$Node;LRingBridges$Frame;)Z"⟩, prog_1_method_33_code, 7, some (.boolean), 0),
  (⟨"RingBridges", "queueReply", "(LRingBridges$Node;LRingBridges$Frame;)V"⟩, prog_1_method_34_code, 3, none, 0),
  (⟨"RingBridges", "learnRoute", "(LRingBridges$Frame;)V"⟩, prog_1_method_35_code, 2, none, 0),
  (⟨"RingBridges", "useFrame", "(LRingBridges$Node;LRingBridges$Frame;)V"⟩, prog_1_method_36_code, 5, none, 0),
  (⟨"RingBridges", "queueAnswer", "(LRingBridges$Node;LRingBridges$Link;I)V"⟩, prog_1_method_37_code, 4, none, 0),
  (⟨"RingBridges", "queueData", "(LRingBridges$Link;)V"⟩, prog_1_method_38_code, 4, none, 0),
  (⟨"RingBridges", "firstPort", "(I)I"⟩, prog_1_method_39_code, 1, some (.int), 0),
  (⟨"RingBridges", "withoutFirst", "(I)I"⟩, prog_1_method_40_code, 1, some (.int), 0),
  (⟨"RingBridges", "hasTwo", "(I)Z"⟩, prog_1_method_41_code, 1, some (.boolean), 0),
  (⟨"RingBridges", "withLast", "(II)I"⟩, prog_1_method_42_code, 3, some (.int), 0),
  (⟨"RingBridges", "backwards", "(I)I"⟩, prog_1_method_43_code, 1, some (.int), 0),
  (⟨"RingBridgesModel", "<init>", "()V"⟩, prog_9_method_1_code, 1, none, 7),
  (⟨"RingBridgesModel", "addressOf", "(I)I"⟩, prog_9_method_2_code, 1, some (.int), 7),
  (⟨"RingBridgesModel", "isRing", "(I)Z"⟩, prog_9_method_3_code, 1, some (.boolean), 7),
  (⟨"RingBridgesModel", "isAddress", "(I)Z"⟩, prog_9_method_4_code, 1, some (.boolean), 7),
  (⟨"RingBridgesModel", "isStation", "(I)Z"⟩, prog_9_method_5_code, 2, some (.boolean), 7),
  (⟨"RingBridgesModel", "nodeAt", "(II)I"⟩, prog_9_method_6_code, 5, some (.int), 7),
  (⟨"RingBridgesModel", "nodeWith", "(II)I"⟩, prog_9_method_7_code, 5, some (.int), 7),
  (⟨"RingBridgesModel", "behind", "(I)I"⟩, prog_9_method_8_code, 2, some (.int), 7),
  (⟨"RingBridgesModel", "come", "(II)V"⟩, prog_9_method_9_code, 3, none, 7),
  (⟨"RingBridgesModel", "other", "(I)I"⟩, prog_9_method_10_code, 1, some (.int), 7),
  (⟨"RingBridgesModel", "copyFrame", "(II)V"⟩, prog_9_method_11_code, 3, none, 7),
  (⟨"RingBridgesModel", "queueNew", "(I)V"⟩, prog_9_method_12_code, 2, none, 7),
  (⟨"RingBridgesModel", "makeFrame", "(IIIIII)V"⟩, prog_9_method_13_code, 7, none, 7),
  (⟨"RingBridgesModel", "wish", "(I)I"⟩, prog_9_method_14_code, 2, some (.int), 7),
  (⟨"RingBridgesModel", "purge", "(I)V"⟩, prog_9_method_15_code, 3, none, 7),
  (⟨"RingBridgesModel", "setToken", "(III)V"⟩, prog_9_method_16_code, 4, none, 7),
  (⟨"RingBridgesModel", "watch", "(II)Z"⟩, prog_9_method_17_code, 3, some (.boolean), 7),
  (⟨"RingBridgesModel", "token", "(II)V"⟩, prog_9_method_18_code, 6, none, 7),
  (⟨"RingBridgesModel", "frame", "(II)V"⟩, prog_9_method_19_code, 6, none, 7),
  (⟨"RingBridgesModel", "move", "(I)V"⟩, prog_9_method_20_code, 4, none, 7),
  (⟨"RingBridgesModel", "receive", "(II)V"⟩, prog_9_method_21_code, 7, none, 7),
  (⟨"RingBridgesModel", "answer", "(II)V"⟩, prog_9_method_22_code, 5, none, 7),
  (⟨"RingBridgesModel", "accept", "(III)V"⟩, prog_9_method_23_code, 6, none, 7),
  (⟨"RingBridgesModel", "heard", "(III)V"⟩, prog_9_method_24_code, 6, none, 7),
  (⟨"RingBridgesModel", "connect", "(I)V"⟩, prog_9_method_25_code, 3, none, 7),
  (⟨"RingBridgesModel", "tick", "(I)I"⟩, prog_9_method_26_code, 4, some (.int), 7),
  (⟨"RingBridgesModel", "join", "(II)Z"⟩, prog_9_method_27_code, 3, some (.boolean), 7),
  (⟨"RingBridgesModel", "bridge", "(III)Z"⟩, prog_9_method_28_code, 4, some (.boolean), 7),
  (⟨"RingBridgesModel", "go", "(I)V"⟩, prog_9_method_29_code, 5, none, 7),
  (⟨"RingBridgesModel", "leave", "(I)Z"⟩, prog_9_method_30_code, 4, some (.boolean), 7),
  (⟨"RingBridgesModel", "damage", "(I)Z"⟩, prog_9_method_31_code, 2, some (.boolean), 7),
  (⟨"RingBridgesModel", "explore", "(II)Z"⟩, prog_9_method_32_code, 3, some (.boolean), 7),
  (⟨"RingBridgesModel", "forget", "(II)Z"⟩, prog_9_method_33_code, 3, some (.boolean), 7),
  (⟨"RingBridgesModel", "route", "(II)I"⟩, prog_9_method_34_code, 4, some (.int), 7),
  (⟨"RingBridgesModel", "open", "(III)I"⟩, prog_9_method_35_code, 7, some (.int), 7),
  (⟨"RingBridgesModel", "isConnection", "(I)Z"⟩, prog_9_method_36_code, 1, some (.boolean), 7),
  (⟨"RingBridgesModel", "close", "(I)Z"⟩, prog_9_method_37_code, 2, some (.boolean), 7),
  (⟨"RingBridgesModel", "offer", "(II)Z"⟩, prog_9_method_38_code, 3, some (.boolean), 7),
  (⟨"RingBridgesModel", "take", "(I)I"⟩, prog_9_method_39_code, 4, some (.int), 7),
  (⟨"RingBridgesModel", "signal", "(I)I"⟩, prog_9_method_40_code, 3, some (.int), 7),
  (⟨"RingBridgesModel", "at", "(I)I"⟩, prog_9_method_41_code, 2, some (.int), 7),
  (⟨"RingBridgesModel", "monitor", "(I)I"⟩, prog_9_method_42_code, 2, some (.int), 7),
  (⟨"RingBridgesModel", "node", "(III)I"⟩, prog_9_method_43_code, 5, some (.int), 7),
  (⟨"RingBridgesModel", "count", "(II)I"⟩, prog_9_method_44_code, 3, some (.int), 7),
  (⟨"RingBridgesModel", "connection", "(II)I"⟩, prog_9_method_45_code, 3, some (.int), 7),
  (⟨"RingBridges$ByteRow", "<init>", "(I)V"⟩, prog_2_method_1_code, 2, none, 6),
  (⟨"RingBridges$ByteRow", "clear", "()V"⟩, prog_2_method_2_code, 1, none, 6),
  (⟨"RingBridges$ByteRow", "isFull", "()Z"⟩, prog_2_method_3_code, 1, some (.boolean), 6),
  (⟨"RingBridges$ByteRow", "add", "(I)V"⟩, prog_2_method_4_code, 2, none, 6),
  (⟨"RingBridges$ByteRow", "get", "(I)I"⟩, prog_2_method_5_code, 2, some (.int), 6),
  (⟨"RingBridges$ByteRow", "dropFirst", "(I)V"⟩, prog_2_method_6_code, 2, none, 6),
  (⟨"RingBridges$Frame", "<init>", "()V"⟩, prog_3_method_1_code, 1, none, 3),
  (⟨"RingBridges$Frame", "begin", "(IIII)V"⟩, prog_3_method_2_code, 5, none, 3),
  (⟨"RingBridges$Frame", "belongTo", "(LRingBridges$Link;I)V"⟩, prog_3_method_3_code, 3, none, 3),
  (⟨"RingBridges$Frame", "copyFrom", "(LRingBridges$Frame;)V"⟩, prog_3_method_4_code, 2, none, 3),
  (⟨"RingBridges$Link", "<init>", "(I)V"⟩, prog_4_method_1_code, 2, none, 5),
  (⟨"RingBridges$Link", "begin", "(IIII)V"⟩, prog_4_method_2_code, 5, none, 5),
  (⟨"RingBridges$Link", "acceptData", "(II)I"⟩, prog_4_method_3_code, 4, some (.int), 5),
  (⟨"RingBridges$Link", "acceptAnswer", "(II)V"⟩, prog_4_method_4_code, 4, none, 5),
  (⟨"RingBridges$Link", "runTimer", "()V"⟩, prog_4_method_5_code, 1, none, 5),
  (⟨"RingBridges$Node", "<init>", "()V"⟩, prog_5_method_1_code, 2, none, 2),
  (⟨"RingBridges$Node", "begin", "(I)V"⟩, prog_5_method_2_code, 2, none, 2),
  (⟨"RingBridges$Node", "isFull", "()Z"⟩, prog_5_method_3_code, 1, some (.boolean), 2),
  (⟨"RingBridges$Node", "addFrame", "()LRingBridges$Frame;"⟩, prog_5_method_4_code, 2, some (.object "RingBridges$Frame"), 2),
  (⟨"RingBridges$Node", "firstPriority", "()I"⟩, prog_5_method_5_code, 1, some (.int), 2),
  (⟨"RingBridges$Node", "moveFirstTo", "(LRingBridges$Frame;)V"⟩, prog_5_method_6_code, 2, none, 2),
  (⟨"RingBridges$Node", "push", "(II)V"⟩, prog_5_method_7_code, 3, none, 2),
  (⟨"RingBridges$Node", "topUpper", "()I"⟩, prog_5_method_8_code, 1, some (.int), 2),
  (⟨"RingBridges$Node", "lowerToken", "(LRingBridges$Signal;)V"⟩, prog_5_method_9_code, 3, none, 2),
  (⟨"RingBridges$Ring", "<init>", "(I)V"⟩, prog_6_method_1_code, 3, none, 1),
  (⟨"RingBridges$Ring", "isFull", "()Z"⟩, prog_6_method_2_code, 1, some (.boolean), 1),
  (⟨"RingBridges$Ring", "placeOf", "(I)I"⟩, prog_6_method_3_code, 3, some (.int), 1),
  (⟨"RingBridges$Ring", "nodeAt", "(I)LRingBridges$Node;"⟩, prog_6_method_4_code, 2, some (.object "RingBridges$Node"), 1),
  (⟨"RingBridges$Ring", "placeBehind", "(I)I"⟩, prog_6_method_5_code, 2, some (.int), 1),
  (⟨"RingBridges$Ring", "addFrameAt", "(I)LRingBridges$Frame;"⟩, prog_6_method_6_code, 3, some (.object "RingBridges$Frame"), 1),
  (⟨"RingBridges$Ring", "addNode", "(I)V"⟩, prog_6_method_7_code, 2, none, 1),
  (⟨"RingBridges$Ring", "removeNode", "(I)V"⟩, prog_6_method_8_code, 4, none, 1),
  (⟨"RingBridges$Ring", "fallSilent", "()V"⟩, prog_6_method_9_code, 1, none, 1),
  (⟨"RingBridges$Ring", "stayQuiet", "()V"⟩, prog_6_method_10_code, 1, none, 1),
  (⟨"RingBridges$Ring", "startPurge", "()V"⟩, prog_6_method_11_code, 1, none, 1),
  (⟨"RingBridges$Ring", "meetToken", "(LRingBridges$Node;)V"⟩, prog_6_method_12_code, 2, none, 1),
  (⟨"RingBridges$Ring", "endFrame", "(LRingBridges$Node;)V"⟩, prog_6_method_13_code, 3, none, 1),
  (⟨"RingBridges$Ring", "meetClaim", "(LRingBridges$Node;)V"⟩, prog_6_method_14_code, 2, none, 1),
  (⟨"RingBridges$Ring", "meetPurge", "(LRingBridges$Node;)V"⟩, prog_6_method_15_code, 2, none, 1),
  (⟨"RingBridges$Signal", "<init>", "()V"⟩, prog_7_method_1_code, 1, none, 4),
  (⟨"RingBridges$Signal", "becomeToken", "(II)V"⟩, prog_7_method_2_code, 3, none, 4),
  (⟨"RingBridges$Signal", "becomeFrame", "(I)V"⟩, prog_7_method_3_code, 2, none, 4),
  (⟨"RingBridges$Signal", "clearMarks", "()V"⟩, prog_7_method_4_code, 1, none, 4),
  (⟨"RingBridges$Signal", "reserve", "(LRingBridges$Node;)V"⟩, prog_7_method_5_code, 2, none, 4),
  (⟨"RingBridges$Signal", "code", "()I"⟩, prog_7_method_6_code, 1, some (.int), 4)]
abbrev rb_nm : Nat := 133
def rb_mk (k : Nat) : MethodName × ByteArray × Nat × Option FieldType × Nat := rb_mt.getD k (⟨"", "", ""⟩, ⟨#[]⟩, 0, none, 0)
def rb_y (k : Nat) : MethodName := (rb_mk k).1
def rb_b (k : Nat) : ByteArray := (rb_mk k).2.1
def rb_ml (k : Nat) : Nat := (rb_mk k).2.2.1
def rb_rt (k : Nat) : Option FieldType := (rb_mk k).2.2.2.1
def rb_mc (k : Nat) : Nat := (rb_mk k).2.2.2.2
def rb_on (k : Nat) : String := (rb_y k).cls
def rb_swl : List (List (Int32 × Nat)) := [[(0, 60), (1, 66), (2, 72)], [(0, 40), (1, 45), (2, 50)], [(0, 72), (1, 77), (2, 82), (3, 87), (4, 95), (5, 100), (6, 108), (7, 113)], [(1, 80), (2, 88), (3, 97)], [(1, 92), (2, 100)], [(0, 76), (1, 83), (2, 90), (3, 97), (4, 104), (5, 111), (6, 118)], [(0, 40), (1, 55), (2, 55), (3, 42), (4, 42)]]
def rb_swt (a : Nat) : List (Int32 × Nat) := rb_swl.getD a []
/-- 0: RingBridges.<init>()V -/
def rb_c0 : List (Nat × rb_I) := [(0, .aload_n 0, 1, 0, 0, 0), (1, .invokespecial 1, 4, 999, 1, 0), (4, .aload_n 0, 5, 0, 0, 0), (5, .iconst 3, 6, 0, 0, 3), (6, .anewarray 9, 9, 2, 0, 0), (9, .putfield 11, 12, 0, 0, 0),
  (12, .iconst 0, 13, 0, 0, 0), (13, .istore_n 1, 14, 0, 0, 0), (14, .iload_n 1, 15, 0, 0, 0), (15, .iconst 3, 16, 0, 0, 3), (16, .if_icmp .ge 23, 19, 39, 0, 0), (19, .aload_n 0, 20, 0, 0, 0),
  (20, .getfield 11, 23, 0, 0, 0), (23, .iload_n 1, 24, 0, 0, 0), (24, .new 9, 27, 1, 0, 0), (27, .dup, 28, 0, 0, 0), (28, .iload_n 1, 29, 0, 0, 0), (29, .invokespecial 15, 32, 112, 2, 0),
  (32, .aastore, 33, 0, 0, 0), (33, .iinc 1 1, 36, 0, 0, 1), (36, .goto (-22), 39, 14, 0, 0), (39, .aload_n 0, 40, 0, 0, 0), (40, .iconst 4, 41, 0, 0, 4), (41, .anewarray 18, 44, 5, 0, 0),
  (44, .putfield 20, 47, 0, 1, 0), (47, .iconst 0, 48, 0, 0, 0), (48, .istore_n 1, 49, 0, 0, 0), (49, .iload_n 1, 50, 0, 0, 0), (50, .iconst 4, 51, 0, 0, 4), (51, .if_icmp .ge 23, 54, 74, 0, 0),
  (54, .aload_n 0, 55, 0, 0, 0), (55, .getfield 20, 58, 0, 1, 0), (58, .iload_n 1, 59, 0, 0, 0), (59, .new 18, 62, 5, 0, 0), (62, .dup, 63, 0, 0, 0), (63, .iload_n 1, 64, 0, 0, 0),
  (64, .invokespecial 24, 67, 98, 2, 0), (67, .aastore, 68, 0, 0, 0), (68, .iinc 1 1, 71, 0, 0, 1), (71, .goto (-22), 74, 49, 0, 0), (74, .aload_n 0, 75, 0, 0, 0), (75, .bipush 10, 77, 0, 0, 10),
  (77, .bipush 10, 79, 0, 0, 10), (79, .multianewarray 25 2, 83, 0, 0, 0), (83, .putfield 27, 86, 0, 2, 0), (86, .iconst 0, 87, 0, 0, 0), (87, .istore_n 1, 88, 0, 0, 0), (88, .iload_n 1, 89, 0, 0, 0),
  (89, .bipush 9, 91, 0, 0, 9), (91, .if_icmp .gt 32, 94, 123, 0, 0), (94, .iconst 0, 95, 0, 0, 0), (95, .istore_n 2, 96, 0, 0, 0), (96, .iload_n 2, 97, 0, 0, 0), (97, .bipush 9, 99, 0, 0, 9),
  (99, .if_icmp .gt 18, 102, 117, 0, 0), (102, .aload_n 0, 103, 0, 0, 0), (103, .getfield 27, 106, 0, 2, 0), (106, .iload_n 1, 107, 0, 0, 0), (107, .aaload, 108, 0, 0, 0), (108, .iload_n 2, 109, 0, 0, 0),
  (109, .iconst (-1), 110, 0, 0, (-1)), (110, .iastore, 111, 0, 0, 0), (111, .iinc 2 1, 114, 0, 0, 1), (114, .goto (-18), 117, 96, 0, 0), (117, .iinc 1 1, 120, 0, 0, 1), (120, .goto (-32), 123, 88, 0, 0),
  (123, .aload_n 0, 124, 0, 0, 0), (124, .iconst 0, 125, 0, 0, 0), (125, .putfield 30, 128, 0, 3, 0), (128, .return_, 129, 0, 0, 0)]
/-- 1: RingBridges.join(II)Z -/
def rb_c1 : List (Nat × rb_I) := [(0, .aload_n 0, 1, 0, 0, 0), (1, .iload_n 1, 2, 0, 0, 0), (2, .invokevirtual 34, 5, 20, 2, 0), (5, .astore_n 3, 6, 0, 0, 0), (6, .aload_n 3, 7, 0, 0, 0), (7, .ifnull 10, 10, 17, 0, 0),
  (10, .iload_n 2, 11, 0, 0, 0), (11, .invokestatic 38, 14, 19, 1, 0), (14, .ifCond .ne 5, 17, 19, 0, 0), (17, .iconst 0, 18, 0, 0, 0), (18, .ireturn, 19, 0, 0, 0), (19, .aload_n 3, 20, 0, 0, 0),
  (20, .invokevirtual 42, 23, 113, 1, 0), (23, .ifCond .ne 11, 26, 34, 0, 0), (26, .aload_n 0, 27, 0, 0, 0), (27, .iload_n 2, 28, 0, 0, 0), (28, .invokevirtual 46, 31, 22, 2, 0), (31, .ifnull 5, 34, 36, 0, 0),
  (34, .iconst 0, 35, 0, 0, 0), (35, .ireturn, 36, 0, 0, 0), (36, .aload_n 3, 37, 0, 0, 0), (37, .iload_n 2, 38, 0, 0, 0), (38, .invokevirtual 49, 41, 118, 2, 0), (41, .iconst 1, 42, 0, 0, 1),
  (42, .ireturn, 43, 0, 0, 0)]
/-- 2: RingBridges.bridge(III)Z -/
def rb_c2 : List (Nat × rb_I) := [(0, .aload_n 0, 1, 0, 0, 0), (1, .iload_n 2, 2, 0, 0, 0), (2, .invokevirtual 34, 5, 20, 2, 0), (5, .astore 4, 7, 0, 0, 0), (7, .aload_n 0, 8, 0, 0, 0), (8, .iload_n 3, 9, 0, 0, 0),
  (9, .invokevirtual 34, 12, 20, 2, 0), (12, .astore 5, 14, 0, 0, 0), (14, .iload_n 1, 15, 0, 0, 0), (15, .ifCond .lt 23, 18, 38, 0, 0), (18, .iload_n 1, 19, 0, 0, 0), (19, .iconst 3, 20, 0, 0, 3),
  (20, .if_icmp .ge 18, 23, 38, 0, 0), (23, .aload 4, 25, 0, 0, 0), (25, .ifnull 13, 28, 38, 0, 0), (28, .aload 5, 30, 0, 0, 0), (30, .ifnull 8, 33, 38, 0, 0), (33, .iload_n 2, 34, 0, 0, 0),
  (34, .iload_n 3, 35, 0, 0, 0), (35, .if_icmp .ne 5, 38, 40, 0, 0), (38, .iconst 0, 39, 0, 0, 0), (39, .ireturn, 40, 0, 0, 0), (40, .bipush 10, 42, 0, 0, 10), (42, .iload_n 1, 43, 0, 0, 0),
  (43, .iadd, 44, 0, 0, 0), (44, .istore 6, 46, 0, 0, 0), (46, .aload 4, 48, 0, 0, 0), (48, .invokevirtual 42, 51, 113, 1, 0), (51, .ifCond .ne 20, 54, 71, 0, 0), (54, .aload 5, 56, 0, 0, 0),
  (56, .invokevirtual 42, 59, 113, 1, 0), (59, .ifCond .ne 12, 62, 71, 0, 0), (62, .aload_n 0, 63, 0, 0, 0), (63, .iload 6, 65, 0, 0, 0), (65, .invokevirtual 46, 68, 22, 2, 0), (68, .ifnull 5, 71, 73, 0, 0),
  (71, .iconst 0, 72, 0, 0, 0), (72, .ireturn, 73, 0, 0, 0), (73, .aload 4, 75, 0, 0, 0), (75, .iload 6, 77, 0, 0, 0), (77, .invokevirtual 49, 80, 118, 2, 0), (80, .aload 5, 82, 0, 0, 0),
  (82, .iload 6, 84, 0, 0, 0), (84, .invokevirtual 49, 87, 118, 2, 0), (87, .iconst 1, 88, 0, 0, 1), (88, .ireturn, 89, 0, 0, 0)]
/-- 3: RingBridges.leave(I)Z -/
def rb_c3 : List (Nat × rb_I) := [(0, .iconst 0, 1, 0, 0, 0), (1, .istore_n 2, 2, 0, 0, 0), (2, .iconst 0, 3, 0, 0, 0), (3, .istore_n 3, 4, 0, 0, 0), (4, .iload_n 3, 5, 0, 0, 0), (5, .iconst 3, 6, 0, 0, 3),
  (6, .if_icmp .ge 39, 9, 45, 0, 0), (9, .aload_n 0, 10, 0, 0, 0), (10, .getfield 11, 13, 0, 0, 0), (13, .iload_n 3, 14, 0, 0, 0), (14, .aaload, 15, 0, 0, 0), (15, .iload_n 1, 16, 0, 0, 0),
  (16, .invokevirtual 52, 19, 114, 2, 0), (19, .istore 4, 21, 0, 0, 0), (21, .iload 4, 23, 0, 0, 0), (23, .ifCond .lt 16, 26, 39, 0, 0), (26, .aload_n 0, 27, 0, 0, 0), (27, .getfield 11, 30, 0, 0, 0),
  (30, .iload_n 3, 31, 0, 0, 0), (31, .aaload, 32, 0, 0, 0), (32, .iload 4, 34, 0, 0, 0), (34, .invokevirtual 56, 37, 119, 2, 0), (37, .iconst 1, 38, 0, 0, 1), (38, .istore_n 2, 39, 0, 0, 0),
  (39, .iinc 3 1, 42, 0, 0, 1), (42, .goto (-38), 45, 4, 0, 0), (45, .iload_n 2, 46, 0, 0, 0), (46, .ifCond .eq 15, 49, 61, 0, 0), (49, .iload_n 1, 50, 0, 0, 0), (50, .invokestatic 38, 53, 19, 1, 0),
  (53, .ifCond .eq 8, 56, 61, 0, 0), (56, .aload_n 0, 57, 0, 0, 0), (57, .iload_n 1, 58, 0, 0, 0), (58, .invokevirtual 59, 61, 27, 2, 0), (61, .iload_n 2, 62, 0, 0, 0), (62, .ireturn, 63, 0, 0, 0)]
/-- 4: RingBridges.damage(I)Z -/
def rb_c4 : List (Nat × rb_I) := [(0, .aload_n 0, 1, 0, 0, 0), (1, .iload_n 1, 2, 0, 0, 0), (2, .invokevirtual 34, 5, 20, 2, 0), (5, .astore_n 2, 6, 0, 0, 0), (6, .aload_n 2, 7, 0, 0, 0), (7, .ifnull 13, 10, 20, 0, 0),
  (10, .aload_n 2, 11, 0, 0, 0), (11, .getfield 62, 14, 1, 2, 0), (14, .getfield 66, 17, 4, 1, 0), (17, .ifCond .ne 5, 20, 22, 0, 0), (20, .iconst 0, 21, 0, 0, 0), (21, .ireturn, 22, 0, 0, 0),
  (22, .aload_n 2, 23, 0, 0, 0), (23, .getfield 62, 26, 1, 2, 0), (26, .getfield 66, 29, 4, 1, 0), (29, .iconst 2, 30, 0, 0, 2), (30, .if_icmp .ne 14, 33, 44, 0, 0), (33, .aload_n 2, 34, 0, 0, 0),
  (34, .getfield 62, 37, 1, 2, 0), (37, .iconst 1, 38, 0, 0, 1), (38, .putfield 71, 41, 4, 6, 0), (41, .goto 7, 44, 48, 0, 0), (44, .aload_n 2, 45, 0, 0, 0), (45, .invokevirtual 75, 48, 120, 1, 0),
  (48, .iconst 1, 49, 0, 0, 1), (49, .ireturn, 50, 0, 0, 0)]
/-- 5: RingBridges.explore(II)Z -/
def rb_c5 : List (Nat × rb_I) := [(0, .iload_n 1, 1, 0, 0, 0), (1, .invokestatic 38, 4, 19, 1, 0), (4, .ifCond .eq 15, 7, 19, 0, 0), (7, .iload_n 2, 8, 0, 0, 0), (8, .invokestatic 38, 11, 19, 1, 0), (11, .ifCond .eq 8, 14, 19, 0, 0),
  (14, .iload_n 1, 15, 0, 0, 0), (15, .iload_n 2, 16, 0, 0, 0), (16, .if_icmp .ne 5, 19, 21, 0, 0), (19, .iconst 0, 20, 0, 0, 0), (20, .ireturn, 21, 0, 0, 0), (21, .aload_n 0, 22, 0, 0, 0),
  (22, .iload_n 1, 23, 0, 0, 0), (23, .invokevirtual 46, 26, 22, 2, 0), (26, .astore_n 3, 27, 0, 0, 0), (27, .aload_n 3, 28, 0, 0, 0), (28, .ifnonnull 5, 31, 33, 0, 0), (31, .iconst 0, 32, 0, 0, 0),
  (32, .ireturn, 33, 0, 0, 0), (33, .aload_n 3, 34, 0, 0, 0), (34, .iload_n 1, 35, 0, 0, 0), (35, .invokevirtual 78, 38, 117, 2, 0), (38, .astore 4, 40, 0, 0, 0), (40, .aload 4, 42, 0, 0, 0),
  (42, .ifnonnull 5, 45, 47, 0, 0), (45, .iconst 0, 46, 0, 0, 0), (46, .ireturn, 47, 0, 0, 0), (47, .aload 4, 49, 0, 0, 0), (49, .iconst 1, 50, 0, 0, 1), (50, .iconst 1, 51, 0, 0, 1),
  (51, .iload_n 1, 52, 0, 0, 0), (52, .iload_n 2, 53, 0, 0, 0), (53, .invokevirtual 82, 56, 95, 5, 0), (56, .aload 4, 58, 0, 0, 0), (58, .iconst 1, 59, 0, 0, 1), (59, .aload_n 3, 60, 0, 0, 0),
  (60, .getfield 88, 63, 1, 0, 0), (63, .ishl, 64, 0, 0, 0), (64, .putfield 91, 67, 3, 6, 0), (67, .iconst 1, 68, 0, 0, 1), (68, .ireturn, 69, 0, 0, 0)]
/-- 6: RingBridges.forget(II)Z -/
def rb_c6 : List (Nat × rb_I) := [(0, .aload_n 0, 1, 0, 0, 0), (1, .iload_n 1, 2, 0, 0, 0), (2, .iload_n 2, 3, 0, 0, 0), (3, .invokevirtual 94, 6, 25, 3, 0), (6, .iconst (-1), 7, 0, 0, (-1)), (7, .if_icmp .ne 5, 10, 12, 0, 0),
  (10, .iconst 0, 11, 0, 0, 0), (11, .ireturn, 12, 0, 0, 0), (12, .aload_n 0, 13, 0, 0, 0), (13, .iload_n 1, 14, 0, 0, 0), (14, .iload_n 2, 15, 0, 0, 0), (15, .iconst (-1), 16, 0, 0, (-1)),
  (16, .invokevirtual 98, 19, 26, 4, 0), (19, .iconst 1, 20, 0, 0, 1), (20, .ireturn, 21, 0, 0, 0)]
/-- 7: RingBridges.route(II)I -/
def rb_c7 : List (Nat × rb_I) := [(0, .aload_n 0, 1, 0, 0, 0), (1, .iload_n 1, 2, 0, 0, 0), (2, .iload_n 2, 3, 0, 0, 0), (3, .invokevirtual 94, 6, 25, 3, 0), (6, .ireturn, 7, 0, 0, 0)]
/-- 8: RingBridges.open(III)I -/
def rb_c8 : List (Nat × rb_I) := [(0, .iload_n 1, 1, 0, 0, 0), (1, .invokestatic 38, 4, 19, 1, 0), (4, .ifCond .eq 24, 7, 28, 0, 0), (7, .iload_n 2, 8, 0, 0, 0), (8, .invokestatic 38, 11, 19, 1, 0), (11, .ifCond .eq 17, 14, 28, 0, 0),
  (14, .iload_n 1, 15, 0, 0, 0), (15, .iload_n 2, 16, 0, 0, 0), (16, .if_icmp .eq 12, 19, 28, 0, 0), (19, .iload_n 3, 20, 0, 0, 0), (20, .ifCond .lt 8, 23, 28, 0, 0), (23, .iload_n 3, 24, 0, 0, 0),
  (24, .iconst 3, 25, 0, 0, 3), (25, .if_icmp .le 5, 28, 30, 0, 0), (28, .iconst (-1), 29, 0, 0, (-1)), (29, .ireturn, 30, 0, 0, 0), (30, .aload_n 0, 31, 0, 0, 0), (31, .iload_n 1, 32, 0, 0, 0),
  (32, .invokevirtual 46, 35, 22, 2, 0), (35, .astore 4, 37, 0, 0, 0), (37, .aload_n 0, 38, 0, 0, 0), (38, .iload_n 2, 39, 0, 0, 0), (39, .invokevirtual 46, 42, 22, 2, 0), (42, .astore 5, 44, 0, 0, 0),
  (44, .aload 4, 46, 0, 0, 0), (46, .ifnull 8, 49, 54, 0, 0), (49, .aload 5, 51, 0, 0, 0), (51, .ifnonnull 5, 54, 56, 0, 0), (54, .iconst (-1), 55, 0, 0, (-1)), (55, .ireturn, 56, 0, 0, 0),
  (56, .aload 4, 58, 0, 0, 0), (58, .getfield 88, 61, 1, 0, 0), (61, .aload 5, 63, 0, 0, 0), (63, .getfield 88, 66, 1, 0, 0), (66, .if_icmp .ne 7, 69, 73, 0, 0), (69, .iconst 1, 70, 0, 0, 1),
  (70, .goto 4, 73, 74, 0, 0), (73, .iconst 0, 74, 0, 0, 0), (74, .istore 6, 76, 0, 0, 0), (76, .iload 6, 78, 0, 0, 0), (78, .ifCond .eq 7, 81, 85, 0, 0), (81, .iconst 0, 82, 0, 0, 0),
  (82, .goto 9, 85, 91, 0, 0), (85, .aload_n 0, 86, 0, 0, 0), (86, .iload_n 1, 87, 0, 0, 0), (87, .iload_n 2, 88, 0, 0, 0), (88, .invokevirtual 94, 91, 25, 3, 0), (91, .istore 7, 93, 0, 0, 0),
  (93, .iload 6, 95, 0, 0, 0), (95, .ifCond .ne 17, 98, 112, 0, 0), (98, .iload 7, 100, 0, 0, 0), (100, .iconst (-1), 101, 0, 0, (-1)), (101, .if_icmp .eq 8, 104, 109, 0, 0), (104, .iload 7, 106, 0, 0, 0),
  (106, .ifCond .ne 6, 109, 112, 0, 0), (109, .bipush (-2), 111, 0, 0, (-2)), (111, .ireturn, 112, 0, 0, 0), (112, .iconst 0, 113, 0, 0, 0), (113, .istore 8, 115, 0, 0, 0), (115, .iload 8, 117, 0, 0, 0),
  (117, .iconst 4, 118, 0, 0, 4), (118, .if_icmp .ge 40, 121, 158, 0, 0), (121, .aload_n 0, 122, 0, 0, 0), (122, .getfield 20, 125, 0, 1, 0), (125, .iload 8, 127, 0, 0, 0), (127, .aaload, 128, 0, 0, 0),
  (128, .getfield 102, 131, 5, 3, 0), (131, .ifCond .ne 21, 134, 152, 0, 0), (134, .aload_n 0, 135, 0, 0, 0), (135, .getfield 20, 138, 0, 1, 0), (138, .iload 8, 140, 0, 0, 0), (140, .aaload, 141, 0, 0, 0),
  (141, .iload_n 1, 142, 0, 0, 0), (142, .iload_n 2, 143, 0, 0, 0), (143, .iload_n 3, 144, 0, 0, 0), (144, .iload 7, 146, 0, 0, 0), (146, .invokevirtual 105, 149, 99, 5, 0), (149, .iload 8, 151, 0, 0, 0),
  (151, .ireturn, 152, 0, 0, 0), (152, .iinc 8 1, 155, 0, 0, 1), (155, .goto (-40), 158, 115, 0, 0), (158, .bipush (-3), 160, 0, 0, (-3)), (160, .ireturn, 161, 0, 0, 0)]
/-- 9: RingBridges.close(I)Z -/
def rb_c9 : List (Nat × rb_I) := [(0, .aload_n 0, 1, 0, 0, 0), (1, .iload_n 1, 2, 0, 0, 0), (2, .invokevirtual 106, 5, 21, 2, 0), (5, .astore_n 2, 6, 0, 0, 0), (6, .aload_n 2, 7, 0, 0, 0), (7, .ifnull 10, 10, 17, 0, 0),
  (10, .aload_n 2, 11, 0, 0, 0), (11, .getfield 102, 14, 5, 3, 0), (14, .ifCond .ne 5, 17, 19, 0, 0), (17, .iconst 0, 18, 0, 0, 0), (18, .ireturn, 19, 0, 0, 0), (19, .aload_n 2, 20, 0, 0, 0),
  (20, .iconst 0, 21, 0, 0, 0), (21, .putfield 102, 24, 5, 3, 0), (24, .iconst 1, 25, 0, 0, 1), (25, .ireturn, 26, 0, 0, 0)]
/-- 10: RingBridges.offer(II)Z -/
def rb_c10 : List (Nat × rb_I) := [(0, .aload_n 0, 1, 0, 0, 0), (1, .iload_n 1, 2, 0, 0, 0), (2, .invokevirtual 106, 5, 21, 2, 0), (5, .astore_n 3, 6, 0, 0, 0), (6, .aload_n 3, 7, 0, 0, 0), (7, .ifnull 32, 10, 39, 0, 0),
  (10, .aload_n 3, 11, 0, 0, 0), (11, .getfield 102, 14, 5, 3, 0), (14, .iconst 1, 15, 0, 0, 1), (15, .if_icmp .ne 24, 18, 39, 0, 0), (18, .iload_n 2, 19, 0, 0, 0), (19, .ifCond .lt 20, 22, 39, 0, 0),
  (22, .iload_n 2, 23, 0, 0, 0), (23, .sipush 255, 26, 0, 0, 255), (26, .if_icmp .gt 13, 29, 39, 0, 0), (29, .aload_n 3, 30, 0, 0, 0), (30, .getfield 110, 33, 5, 1, 0), (33, .invokevirtual 114, 36, 90, 1, 0),
  (36, .ifCond .eq 5, 39, 41, 0, 0), (39, .iconst 0, 40, 0, 0, 0), (40, .ireturn, 41, 0, 0, 0), (41, .aload_n 3, 42, 0, 0, 0), (42, .getfield 110, 45, 5, 1, 0), (45, .iload_n 2, 46, 0, 0, 0),
  (46, .invokevirtual 117, 49, 91, 2, 0), (49, .iconst 1, 50, 0, 0, 1), (50, .ireturn, 51, 0, 0, 0)]
/-- 11: RingBridges.take(I)I -/
def rb_c11 : List (Nat × rb_I) := [(0, .aload_n 0, 1, 0, 0, 0), (1, .iload_n 1, 2, 0, 0, 0), (2, .invokevirtual 106, 5, 21, 2, 0), (5, .astore_n 2, 6, 0, 0, 0), (6, .aload_n 2, 7, 0, 0, 0), (7, .ifnull 20, 10, 27, 0, 0),
  (10, .aload_n 2, 11, 0, 0, 0), (11, .getfield 102, 14, 5, 3, 0), (14, .ifCond .eq 13, 17, 27, 0, 0), (17, .aload_n 2, 18, 0, 0, 0), (18, .getfield 120, 21, 5, 2, 0), (21, .getfield 123, 24, 6, 3, 0),
  (24, .ifCond .ne 5, 27, 29, 0, 0), (27, .iconst (-1), 28, 0, 0, (-1)), (28, .ireturn, 29, 0, 0, 0), (29, .aload_n 2, 30, 0, 0, 0), (30, .getfield 120, 33, 5, 2, 0), (33, .iconst 0, 34, 0, 0, 0),
  (34, .invokevirtual 126, 37, 92, 2, 0), (37, .istore_n 3, 38, 0, 0, 0), (38, .aload_n 2, 39, 0, 0, 0), (39, .getfield 120, 42, 5, 2, 0), (42, .iconst 1, 43, 0, 0, 1), (43, .invokevirtual 129, 46, 93, 2, 0),
  (46, .aload_n 2, 47, 0, 0, 0), (47, .getfield 102, 50, 5, 3, 0), (50, .iconst 1, 51, 0, 0, 1), (51, .if_icmp .ne 45, 54, 96, 0, 0), (54, .aload_n 2, 55, 0, 0, 0), (55, .getfield 132, 58, 5, 16, 0),
  (58, .ifCond .eq 38, 61, 96, 0, 0), (61, .aload_n 0, 62, 0, 0, 0), (62, .aload_n 2, 63, 0, 0, 0), (63, .getfield 135, 66, 5, 6, 0), (66, .invokevirtual 138, 69, 23, 2, 0), (69, .astore 4, 71, 0, 0, 0),
  (71, .aload 4, 73, 0, 0, 0), (73, .ifnull 23, 76, 96, 0, 0), (76, .aload 4, 78, 0, 0, 0), (78, .invokevirtual 142, 81, 105, 1, 0), (81, .ifCond .ne 15, 84, 96, 0, 0), (84, .aload_n 2, 85, 0, 0, 0),
  (85, .iconst 0, 86, 0, 0, 0), (86, .putfield 132, 89, 5, 16, 0), (89, .aload 4, 91, 0, 0, 0), (91, .aload_n 2, 92, 0, 0, 0), (92, .iconst 4, 93, 0, 0, 4), (93, .invokestatic 145, 96, 36, 3, 0),
  (96, .iload_n 3, 97, 0, 0, 0), (97, .ireturn, 98, 0, 0, 0)]
/-- 12: RingBridges.tick(I)I -/
def rb_c12 : List (Nat × rb_I) := [(0, .iload_n 1, 1, 0, 0, 0), (1, .ifCond .lt 10, 4, 11, 0, 0), (4, .iload_n 1, 5, 0, 0, 0), (5, .sipush 200, 8, 0, 0, 200), (8, .if_icmp .le 8, 11, 16, 0, 0), (11, .aload_n 0, 12, 0, 0, 0),
  (12, .getfield 30, 15, 0, 3, 0), (15, .ireturn, 16, 0, 0, 0), (16, .iconst 0, 17, 0, 0, 0), (17, .istore_n 2, 18, 0, 0, 0), (18, .iload_n 2, 19, 0, 0, 0), (19, .iload_n 1, 20, 0, 0, 0),
  (20, .if_icmp .ge 74, 23, 94, 0, 0), (23, .iconst 0, 24, 0, 0, 0), (24, .istore_n 3, 25, 0, 0, 0), (25, .iload_n 3, 26, 0, 0, 0), (26, .iconst 3, 27, 0, 0, 3), (27, .if_icmp .ge 19, 30, 46, 0, 0),
  (30, .aload_n 0, 31, 0, 0, 0), (31, .aload_n 0, 32, 0, 0, 0), (32, .getfield 11, 35, 0, 0, 0), (35, .iload_n 3, 36, 0, 0, 0), (36, .aaload, 37, 0, 0, 0), (37, .invokevirtual 149, 40, 28, 2, 0),
  (40, .iinc 3 1, 43, 0, 0, 1), (43, .goto (-18), 46, 25, 0, 0), (46, .iconst 0, 47, 0, 0, 0), (47, .istore_n 3, 48, 0, 0, 0), (48, .iload_n 3, 49, 0, 0, 0), (49, .iconst 4, 50, 0, 0, 4),
  (50, .if_icmp .ge 28, 53, 78, 0, 0), (53, .aload_n 0, 54, 0, 0, 0), (54, .getfield 20, 57, 0, 1, 0), (57, .iload_n 3, 58, 0, 0, 0), (58, .aaload, 59, 0, 0, 0), (59, .invokevirtual 153, 62, 102, 1, 0),
  (62, .aload_n 0, 63, 0, 0, 0), (63, .aload_n 0, 64, 0, 0, 0), (64, .getfield 20, 67, 0, 1, 0), (67, .iload_n 3, 68, 0, 0, 0), (68, .aaload, 69, 0, 0, 0), (69, .invokevirtual 156, 72, 37, 2, 0),
  (72, .iinc 3 1, 75, 0, 0, 1), (75, .goto (-27), 78, 48, 0, 0), (78, .aload_n 0, 79, 0, 0, 0), (79, .dup, 80, 0, 0, 0), (80, .getfield 30, 83, 0, 3, 0), (83, .iconst 1, 84, 0, 0, 1),
  (84, .iadd, 85, 0, 0, 0), (85, .putfield 30, 88, 0, 3, 0), (88, .iinc 2 1, 91, 0, 0, 1), (91, .goto (-73), 94, 18, 0, 0), (94, .aload_n 0, 95, 0, 0, 0), (95, .getfield 30, 98, 0, 3, 0),
  (98, .ireturn, 99, 0, 0, 0)]
/-- 13: RingBridges.signal(I)I -/
def rb_c13 : List (Nat × rb_I) := [(0, .aload_n 0, 1, 0, 0, 0), (1, .iload_n 1, 2, 0, 0, 0), (2, .invokevirtual 34, 5, 20, 2, 0), (5, .astore_n 2, 6, 0, 0, 0), (6, .aload_n 2, 7, 0, 0, 0), (7, .ifnonnull 7, 10, 14, 0, 0),
  (10, .iconst (-1), 11, 0, 0, (-1)), (11, .goto 10, 14, 21, 0, 0), (14, .aload_n 2, 15, 0, 0, 0), (15, .getfield 62, 18, 1, 2, 0), (18, .invokevirtual 160, 21, 132, 1, 0), (21, .ireturn, 22, 0, 0, 0)]
/-- 14: RingBridges.at(I)I -/
def rb_c14 : List (Nat × rb_I) := [(0, .aload_n 0, 1, 0, 0, 0), (1, .iload_n 1, 2, 0, 0, 0), (2, .invokevirtual 34, 5, 20, 2, 0), (5, .astore_n 2, 6, 0, 0, 0), (6, .aload_n 2, 7, 0, 0, 0), (7, .ifnull 13, 10, 20, 0, 0),
  (10, .aload_n 2, 11, 0, 0, 0), (11, .getfield 62, 14, 1, 2, 0), (14, .getfield 66, 17, 4, 1, 0), (17, .ifCond .ne 7, 20, 24, 0, 0), (20, .iconst (-1), 21, 0, 0, (-1)), (21, .goto 7, 24, 28, 0, 0),
  (24, .aload_n 2, 25, 0, 0, 0), (25, .getfield 164, 28, 1, 4, 0), (28, .ireturn, 29, 0, 0, 0)]
/-- 15: RingBridges.monitor(I)I -/
def rb_c15 : List (Nat × rb_I) := [(0, .aload_n 0, 1, 0, 0, 0), (1, .iload_n 1, 2, 0, 0, 0), (2, .invokevirtual 34, 5, 20, 2, 0), (5, .astore_n 2, 6, 0, 0, 0), (6, .aload_n 2, 7, 0, 0, 0), (7, .ifnonnull 7, 10, 14, 0, 0),
  (10, .iconst (-1), 11, 0, 0, (-1)), (11, .goto 7, 14, 18, 0, 0), (14, .aload_n 2, 15, 0, 0, 0), (15, .getfield 167, 18, 1, 6, 0), (18, .ireturn, 19, 0, 0, 0)]
/-- 16: RingBridges.node(III)I -/
def rb_c16 : List (Nat × rb_I) := [(0, .aload_n 0, 1, 0, 0, 0), (1, .iload_n 1, 2, 0, 0, 0), (2, .invokevirtual 34, 5, 20, 2, 0), (5, .astore 4, 7, 0, 0, 0), (7, .aload 4, 9, 0, 0, 0), (9, .ifnonnull 7, 12, 16, 0, 0),
  (12, .aconst_null, 13, 0, 0, 0), (13, .goto 9, 16, 22, 0, 0), (16, .aload 4, 18, 0, 0, 0), (18, .iload_n 2, 19, 0, 0, 0), (19, .invokevirtual 170, 22, 115, 2, 0), (22, .astore 5, 24, 0, 0, 0),
  (24, .aload 5, 26, 0, 0, 0), (26, .ifnonnull 5, 29, 31, 0, 0), (29, .iconst (-1), 30, 0, 0, (-1)), (30, .ireturn, 31, 0, 0, 0), (31, .iload_n 3, 32, 0, 0, 0), (32, .tableswitch 46 0 2 #[28, 34, 40], 60, 0, 78, 0),
  (60, .aload 5, 62, 0, 0, 0), (62, .getfield 173, 65, 2, 3, 0), (65, .ireturn, 66, 0, 0, 0), (66, .aload 5, 68, 0, 0, 0), (68, .getfield 176, 71, 2, 5, 0), (71, .ireturn, 72, 0, 0, 0),
  (72, .aload 5, 74, 0, 0, 0), (74, .getfield 179, 77, 2, 6, 0), (77, .ireturn, 78, 0, 0, 0), (78, .iconst (-1), 79, 0, 0, (-1)), (79, .ireturn, 80, 0, 0, 0)]
/-- 17: RingBridges.count(II)I -/
def rb_c17 : List (Nat × rb_I) := [(0, .aload_n 0, 1, 0, 0, 0), (1, .iload_n 1, 2, 0, 0, 0), (2, .invokevirtual 34, 5, 20, 2, 0), (5, .astore_n 3, 6, 0, 0, 0), (6, .aload_n 3, 7, 0, 0, 0), (7, .ifnonnull 5, 10, 12, 0, 0),
  (10, .iconst (-1), 11, 0, 0, (-1)), (11, .ireturn, 12, 0, 0, 0), (12, .iload_n 2, 13, 0, 0, 0), (13, .tableswitch 42 0 2 #[27, 32, 37], 40, 1, 55, 0), (40, .aload_n 3, 41, 0, 0, 0), (41, .getfield 182, 44, 1, 7, 0),
  (44, .ireturn, 45, 0, 0, 0), (45, .aload_n 3, 46, 0, 0, 0), (46, .getfield 185, 49, 1, 8, 0), (49, .ireturn, 50, 0, 0, 0), (50, .aload_n 3, 51, 0, 0, 0), (51, .getfield 188, 54, 1, 9, 0),
  (54, .ireturn, 55, 0, 0, 0), (55, .iconst (-1), 56, 0, 0, (-1)), (56, .ireturn, 57, 0, 0, 0)]
/-- 18: RingBridges.connection(II)I -/
def rb_c18 : List (Nat × rb_I) := [(0, .aload_n 0, 1, 0, 0, 0), (1, .iload_n 1, 2, 0, 0, 0), (2, .invokevirtual 106, 5, 21, 2, 0), (5, .astore_n 3, 6, 0, 0, 0), (6, .aload_n 3, 7, 0, 0, 0), (7, .ifnull 14, 10, 21, 0, 0),
  (10, .aload_n 3, 11, 0, 0, 0), (11, .getfield 102, 14, 5, 3, 0), (14, .ifCond .ne 9, 17, 23, 0, 0), (17, .iload_n 2, 18, 0, 0, 0), (18, .ifCond .eq 5, 21, 23, 0, 0), (21, .iconst (-1), 22, 0, 0, (-1)),
  (22, .ireturn, 23, 0, 0, 0), (23, .iload_n 2, 24, 0, 0, 0), (24, .tableswitch 111 0 7 #[48, 53, 58, 63, 71, 76, 84, 89], 72, 2, 135, 0), (72, .aload_n 3, 73, 0, 0, 0), (73, .getfield 102, 76, 5, 3, 0), (76, .ireturn, 77, 0, 0, 0),
  (77, .aload_n 3, 78, 0, 0, 0), (78, .getfield 191, 81, 5, 9, 0), (81, .ireturn, 82, 0, 0, 0), (82, .aload_n 3, 83, 0, 0, 0), (83, .getfield 194, 86, 5, 10, 0), (86, .ireturn, 87, 0, 0, 0),
  (87, .aload_n 3, 88, 0, 0, 0), (88, .getfield 110, 91, 5, 1, 0), (91, .getfield 123, 94, 6, 3, 0), (94, .ireturn, 95, 0, 0, 0), (95, .aload_n 3, 96, 0, 0, 0), (96, .getfield 195, 99, 5, 13, 0),
  (99, .ireturn, 100, 0, 0, 0), (100, .aload_n 3, 101, 0, 0, 0), (101, .getfield 120, 104, 5, 2, 0), (104, .getfield 123, 107, 6, 3, 0), (107, .ireturn, 108, 0, 0, 0), (108, .aload_n 3, 109, 0, 0, 0),
  (109, .getfield 198, 112, 5, 12, 0), (112, .ireturn, 113, 0, 0, 0), (113, .aload_n 3, 114, 0, 0, 0), (114, .getfield 201, 117, 5, 14, 0), (117, .ifCond .eq 13, 120, 130, 0, 0), (120, .aload_n 3, 121, 0, 0, 0),
  (121, .getfield 203, 124, 5, 11, 0), (124, .bipush 100, 126, 0, 0, 100), (126, .iadd, 127, 0, 0, 0), (127, .goto 7, 130, 134, 0, 0), (130, .aload_n 3, 131, 0, 0, 0), (131, .getfield 203, 134, 5, 11, 0),
  (134, .ireturn, 135, 0, 0, 0), (135, .iconst (-1), 136, 0, 0, (-1)), (136, .ireturn, 137, 0, 0, 0)]
/-- 19: RingBridges.isStationAddress(I)Z -/
def rb_c19 : List (Nat × rb_I) := [(0, .iload_n 0, 1, 0, 0, 0), (1, .iconst 1, 2, 0, 0, 1), (2, .if_icmp .lt 13, 5, 15, 0, 0), (5, .iload_n 0, 6, 0, 0, 0), (6, .bipush 9, 8, 0, 0, 9), (8, .if_icmp .gt 7, 11, 15, 0, 0),
  (11, .iconst 1, 12, 0, 0, 1), (12, .goto 4, 15, 16, 0, 0), (15, .iconst 0, 16, 0, 0, 0), (16, .ireturn, 17, 0, 0, 0)]
/-- 20: RingBridges.ringNumbered(I)LRingBridges$Ring; -/
def rb_c20 : List (Nat × rb_I) := [(0, .iload_n 1, 1, 0, 0, 0), (1, .ifCond .lt 17, 4, 18, 0, 0), (4, .iload_n 1, 5, 0, 0, 0), (5, .iconst 3, 6, 0, 0, 3), (6, .if_icmp .ge 12, 9, 18, 0, 0), (9, .aload_n 0, 10, 0, 0, 0),
  (10, .getfield 11, 13, 0, 0, 0), (13, .iload_n 1, 14, 0, 0, 0), (14, .aaload, 15, 0, 0, 0), (15, .goto 4, 18, 19, 0, 0), (18, .aconst_null, 19, 0, 0, 0), (19, .areturn, 20, 0, 0, 0)]
/-- 21: RingBridges.linkNumbered(I)LRingBridges$Link; -/
def rb_c21 : List (Nat × rb_I) := [(0, .iload_n 1, 1, 0, 0, 0), (1, .ifCond .lt 17, 4, 18, 0, 0), (4, .iload_n 1, 5, 0, 0, 0), (5, .iconst 4, 6, 0, 0, 4), (6, .if_icmp .ge 12, 9, 18, 0, 0), (9, .aload_n 0, 10, 0, 0, 0),
  (10, .getfield 20, 13, 0, 1, 0), (13, .iload_n 1, 14, 0, 0, 0), (14, .aaload, 15, 0, 0, 0), (15, .goto 4, 18, 19, 0, 0), (18, .aconst_null, 19, 0, 0, 0), (19, .areturn, 20, 0, 0, 0)]
/-- 22: RingBridges.ringHolding(I)LRingBridges$Ring; -/
def rb_c22 : List (Nat × rb_I) := [(0, .iconst 0, 1, 0, 0, 0), (1, .istore_n 2, 2, 0, 0, 0), (2, .iload_n 2, 3, 0, 0, 0), (3, .iconst 3, 4, 0, 0, 3), (4, .if_icmp .ge 29, 7, 33, 0, 0), (7, .aload_n 0, 8, 0, 0, 0),
  (8, .getfield 11, 11, 0, 0, 0), (11, .iload_n 2, 12, 0, 0, 0), (12, .aaload, 13, 0, 0, 0), (13, .iload_n 1, 14, 0, 0, 0), (14, .invokevirtual 52, 17, 114, 2, 0), (17, .ifCond .lt 10, 20, 27, 0, 0),
  (20, .aload_n 0, 21, 0, 0, 0), (21, .getfield 11, 24, 0, 0, 0), (24, .iload_n 2, 25, 0, 0, 0), (25, .aaload, 26, 0, 0, 0), (26, .areturn, 27, 0, 0, 0), (27, .iinc 2 1, 30, 0, 0, 1),
  (30, .goto (-28), 33, 2, 0, 0), (33, .aconst_null, 34, 0, 0, 0), (34, .areturn, 35, 0, 0, 0)]
/-- 23: RingBridges.nodeHolding(I)LRingBridges$Node; -/
def rb_c23 : List (Nat × rb_I) := [(0, .iconst 0, 1, 0, 0, 0), (1, .istore_n 2, 2, 0, 0, 0), (2, .iload_n 2, 3, 0, 0, 0), (3, .iconst 3, 4, 0, 0, 3), (4, .if_icmp .ge 35, 7, 39, 0, 0), (7, .aload_n 0, 8, 0, 0, 0),
  (8, .getfield 11, 11, 0, 0, 0), (11, .iload_n 2, 12, 0, 0, 0), (12, .aaload, 13, 0, 0, 0), (13, .aload_n 0, 14, 0, 0, 0), (14, .getfield 11, 17, 0, 0, 0), (17, .iload_n 2, 18, 0, 0, 0),
  (18, .aaload, 19, 0, 0, 0), (19, .iload_n 1, 20, 0, 0, 0), (20, .invokevirtual 52, 23, 114, 2, 0), (23, .invokevirtual 170, 26, 115, 2, 0), (26, .astore_n 3, 27, 0, 0, 0), (27, .aload_n 3, 28, 0, 0, 0),
  (28, .ifnull 5, 31, 33, 0, 0), (31, .aload_n 3, 32, 0, 0, 0), (32, .areturn, 33, 0, 0, 0), (33, .iinc 2 1, 36, 0, 0, 1), (36, .goto (-34), 39, 2, 0, 0), (39, .aconst_null, 40, 0, 0, 0),
  (40, .areturn, 41, 0, 0, 0)]
/-- 24: RingBridges.ringBeyond(LRingBridges$Ring;I)LRingBridges$Ring; -/
def rb_c24 : List (Nat × rb_I) := [(0, .iconst 0, 1, 0, 0, 0), (1, .istore_n 3, 2, 0, 0, 0), (2, .iload_n 3, 3, 0, 0, 0), (3, .iconst 3, 4, 0, 0, 3), (4, .if_icmp .ge 37, 7, 41, 0, 0), (7, .iload_n 3, 8, 0, 0, 0),
  (8, .aload_n 1, 9, 0, 0, 0), (9, .getfield 88, 12, 1, 0, 0), (12, .if_icmp .eq 23, 15, 35, 0, 0), (15, .aload_n 0, 16, 0, 0, 0), (16, .getfield 11, 19, 0, 0, 0), (19, .iload_n 3, 20, 0, 0, 0),
  (20, .aaload, 21, 0, 0, 0), (21, .iload_n 2, 22, 0, 0, 0), (22, .invokevirtual 52, 25, 114, 2, 0), (25, .ifCond .lt 10, 28, 35, 0, 0), (28, .aload_n 0, 29, 0, 0, 0), (29, .getfield 11, 32, 0, 0, 0),
  (32, .iload_n 3, 33, 0, 0, 0), (33, .aaload, 34, 0, 0, 0), (34, .areturn, 35, 0, 0, 0), (35, .iinc 3 1, 38, 0, 0, 1), (38, .goto (-36), 41, 2, 0, 0), (41, .aconst_null, 42, 0, 0, 0),
  (42, .areturn, 43, 0, 0, 0)]
/-- 25: RingBridges.knownRoute(II)I -/
def rb_c25 : List (Nat × rb_I) := [(0, .iload_n 1, 1, 0, 0, 0), (1, .invokestatic 38, 4, 19, 1, 0), (4, .ifCond .eq 21, 7, 25, 0, 0), (7, .iload_n 2, 8, 0, 0, 0), (8, .invokestatic 38, 11, 19, 1, 0), (11, .ifCond .eq 14, 14, 25, 0, 0),
  (14, .aload_n 0, 15, 0, 0, 0), (15, .getfield 27, 18, 0, 2, 0), (18, .iload_n 1, 19, 0, 0, 0), (19, .aaload, 20, 0, 0, 0), (20, .iload_n 2, 21, 0, 0, 0), (21, .iaload, 22, 0, 0, 0),
  (22, .goto 4, 25, 26, 0, 0), (25, .iconst (-1), 26, 0, 0, (-1)), (26, .ireturn, 27, 0, 0, 0)]
/-- 26: RingBridges.setRoute(III)V -/
def rb_c26 : List (Nat × rb_I) := [(0, .iload_n 1, 1, 0, 0, 0), (1, .invokestatic 38, 4, 19, 1, 0), (4, .ifCond .eq 19, 7, 23, 0, 0), (7, .iload_n 2, 8, 0, 0, 0), (8, .invokestatic 38, 11, 19, 1, 0), (11, .ifCond .eq 12, 14, 23, 0, 0),
  (14, .aload_n 0, 15, 0, 0, 0), (15, .getfield 27, 18, 0, 2, 0), (18, .iload_n 1, 19, 0, 0, 0), (19, .aaload, 20, 0, 0, 0), (20, .iload_n 2, 21, 0, 0, 0), (21, .iload_n 3, 22, 0, 0, 0),
  (22, .iastore, 23, 0, 0, 0), (23, .return_, 24, 0, 0, 0)]
/-- 27: RingBridges.forgetStation(I)V -/
def rb_c27 : List (Nat × rb_I) := [(0, .iconst 1, 1, 0, 0, 1), (1, .istore_n 2, 2, 0, 0, 0), (2, .iload_n 2, 3, 0, 0, 0), (3, .bipush 9, 5, 0, 0, 9), (5, .if_icmp .gt 23, 8, 28, 0, 0), (8, .aload_n 0, 9, 0, 0, 0),
  (9, .iload_n 1, 10, 0, 0, 0), (10, .iload_n 2, 11, 0, 0, 0), (11, .iconst (-1), 12, 0, 0, (-1)), (12, .invokevirtual 98, 15, 26, 4, 0), (15, .aload_n 0, 16, 0, 0, 0), (16, .iload_n 2, 17, 0, 0, 0),
  (17, .iload_n 1, 18, 0, 0, 0), (18, .iconst (-1), 19, 0, 0, (-1)), (19, .invokevirtual 98, 22, 26, 4, 0), (22, .iinc 2 1, 25, 0, 0, 1), (25, .goto (-23), 28, 2, 0, 0), (28, .iconst 0, 29, 0, 0, 0),
  (29, .istore_n 2, 30, 0, 0, 0), (30, .iload_n 2, 31, 0, 0, 0), (31, .iconst 4, 32, 0, 0, 4), (32, .if_icmp .ge 45, 35, 77, 0, 0), (35, .aload_n 0, 36, 0, 0, 0), (36, .getfield 20, 39, 0, 1, 0),
  (39, .iload_n 2, 40, 0, 0, 0), (40, .aaload, 41, 0, 0, 0), (41, .astore_n 3, 42, 0, 0, 0), (42, .aload_n 3, 43, 0, 0, 0), (43, .getfield 102, 46, 5, 3, 0), (46, .iconst 1, 47, 0, 0, 1),
  (47, .if_icmp .ne 24, 50, 71, 0, 0), (50, .aload_n 3, 51, 0, 0, 0), (51, .getfield 206, 54, 5, 5, 0), (54, .iload_n 1, 55, 0, 0, 0), (55, .if_icmp .eq 11, 58, 66, 0, 0), (58, .aload_n 3, 59, 0, 0, 0),
  (59, .getfield 135, 62, 5, 6, 0), (62, .iload_n 1, 63, 0, 0, 0), (63, .if_icmp .ne 8, 66, 71, 0, 0), (66, .aload_n 3, 67, 0, 0, 0), (67, .iconst 2, 68, 0, 0, 2), (68, .putfield 102, 71, 5, 3, 0),
  (71, .iinc 2 1, 74, 0, 0, 1), (74, .goto (-44), 77, 30, 0, 0), (77, .return_, 78, 0, 0, 0)]
/-- 28: RingBridges.moveRing(LRingBridges$Ring;)V -/
def rb_c28 : List (Nat × rb_I) := [(0, .aload_n 1, 1, 0, 0, 0), (1, .getfield 209, 4, 1, 3, 0), (4, .ifCond .ne 4, 7, 8, 0, 0), (7, .return_, 8, 0, 0, 0), (8, .aload_n 1, 9, 0, 0, 0), (9, .getfield 62, 12, 1, 2, 0),
  (12, .getfield 66, 15, 4, 1, 0), (15, .ifCond .ne 8, 18, 23, 0, 0), (18, .aload_n 1, 19, 0, 0, 0), (19, .invokevirtual 210, 22, 121, 1, 0), (22, .return_, 23, 0, 0, 0), (23, .aload_n 1, 24, 0, 0, 0),
  (24, .getfield 164, 27, 1, 4, 0), (27, .istore_n 2, 28, 0, 0, 0), (28, .aload_n 1, 29, 0, 0, 0), (29, .iload_n 2, 30, 0, 0, 0), (30, .invokevirtual 170, 33, 115, 2, 0), (33, .astore_n 3, 34, 0, 0, 0),
  (34, .aload_n 3, 35, 0, 0, 0), (35, .ifnonnull 4, 38, 39, 0, 0), (38, .return_, 39, 0, 0, 0), (39, .aload_n 1, 40, 0, 0, 0), (40, .aload_n 1, 41, 0, 0, 0), (41, .iload_n 2, 42, 0, 0, 0),
  (42, .invokevirtual 213, 45, 116, 2, 0), (45, .putfield 164, 48, 1, 4, 0), (48, .aload_n 1, 49, 0, 0, 0), (49, .getfield 62, 52, 1, 2, 0), (52, .getfield 66, 55, 4, 1, 0), (55, .tableswitch 50 1 3 #[25, 33, 42], 80, 3, 105, 0),
  (80, .aload_n 1, 81, 0, 0, 0), (81, .aload_n 3, 82, 0, 0, 0), (82, .invokevirtual 216, 85, 123, 2, 0), (85, .goto 25, 88, 110, 0, 0), (88, .aload_n 0, 89, 0, 0, 0), (89, .aload_n 1, 90, 0, 0, 0),
  (90, .aload_n 3, 91, 0, 0, 0), (91, .invokevirtual 220, 94, 29, 3, 0), (94, .goto 16, 97, 110, 0, 0), (97, .aload_n 1, 98, 0, 0, 0), (98, .aload_n 3, 99, 0, 0, 0), (99, .invokevirtual 224, 102, 125, 2, 0),
  (102, .goto 8, 105, 110, 0, 0), (105, .aload_n 1, 106, 0, 0, 0), (106, .aload_n 3, 107, 0, 0, 0), (107, .invokevirtual 227, 110, 126, 2, 0), (110, .return_, 111, 0, 0, 0)]
/-- 29: RingBridges.meetFrame(LRingBridges$Ring;LRingBridges$Node;)V -/
def rb_c29 : List (Nat × rb_I) := [(0, .aload_n 1, 1, 0, 0, 0), (1, .getfield 62, 4, 1, 2, 0), (4, .astore_n 3, 5, 0, 0, 0), (5, .aload_n 2, 6, 0, 0, 0), (6, .getfield 173, 9, 2, 3, 0), (9, .aload_n 3, 10, 0, 0, 0),
  (10, .getfield 230, 13, 4, 4, 0), (13, .if_icmp .ne 9, 16, 22, 0, 0), (16, .aload_n 1, 17, 0, 0, 0), (17, .aload_n 2, 18, 0, 0, 0), (18, .invokevirtual 231, 21, 124, 2, 0), (21, .return_, 22, 0, 0, 0),
  (22, .aload_n 2, 23, 0, 0, 0), (23, .getfield 173, 26, 2, 3, 0), (26, .aload_n 1, 27, 0, 0, 0), (27, .getfield 167, 30, 1, 6, 0), (30, .if_icmp .ne 20, 33, 50, 0, 0), (33, .aload_n 3, 34, 0, 0, 0),
  (34, .getfield 234, 37, 4, 5, 0), (37, .ifCond .eq 8, 40, 45, 0, 0), (40, .aload_n 1, 41, 0, 0, 0), (41, .invokevirtual 237, 44, 122, 1, 0), (44, .return_, 45, 0, 0, 0), (45, .aload_n 3, 46, 0, 0, 0),
  (46, .iconst 1, 47, 0, 0, 1), (47, .putfield 234, 50, 4, 5, 0), (50, .aload_n 3, 51, 0, 0, 0), (51, .getfield 71, 54, 4, 6, 0), (54, .ifCond .ne 17, 57, 71, 0, 0), (57, .aload_n 0, 58, 0, 0, 0),
  (58, .aload_n 1, 59, 0, 0, 0), (59, .aload_n 2, 60, 0, 0, 0), (60, .invokevirtual 240, 63, 30, 3, 0), (63, .ifCond .eq 8, 66, 71, 0, 0), (66, .aload_n 3, 67, 0, 0, 0), (67, .iconst 1, 68, 0, 0, 1),
  (68, .putfield 244, 71, 4, 7, 0), (71, .aload_n 3, 72, 0, 0, 0), (72, .aload_n 2, 73, 0, 0, 0), (73, .invokevirtual 247, 76, 131, 2, 0), (76, .return_, 77, 0, 0, 0)]
/-- 30: RingBridges.receive(LRingBridges$Ring;LRingBridges$Node;)Z -/
def rb_c30 : List (Nat × rb_I) := [(0, .aload_n 1, 1, 0, 0, 0), (1, .getfield 62, 4, 1, 2, 0), (4, .getfield 250, 7, 4, 0, 0), (7, .astore_n 3, 8, 0, 0, 0), (8, .aload_n 2, 9, 0, 0, 0), (9, .getfield 173, 12, 2, 3, 0),
  (12, .bipush 10, 14, 0, 0, 10), (14, .if_icmp .lt 29, 17, 43, 0, 0), (17, .aload_n 3, 18, 0, 0, 0), (18, .getfield 254, 21, 3, 0, 0), (21, .iconst 1, 22, 0, 0, 1), (22, .if_icmp .ne 13, 25, 35, 0, 0),
  (25, .aload_n 0, 26, 0, 0, 0), (26, .aload_n 1, 27, 0, 0, 0), (27, .aload_n 2, 28, 0, 0, 0), (28, .aload_n 3, 29, 0, 0, 0), (29, .invokevirtual 255, 32, 32, 4, 0), (32, .goto 10, 35, 42, 0, 0),
  (35, .aload_n 0, 36, 0, 0, 0), (36, .aload_n 1, 37, 0, 0, 0), (37, .aload_n 2, 38, 0, 0, 0), (38, .aload_n 3, 39, 0, 0, 0), (39, .invokevirtual 259, 42, 31, 4, 0), (42, .ireturn, 43, 0, 0, 0),
  (43, .aload_n 3, 44, 0, 0, 0), (44, .getfield 262, 47, 3, 4, 0), (47, .ifCond .ne 14, 50, 61, 0, 0), (50, .aload_n 3, 51, 0, 0, 0), (51, .getfield 265, 54, 3, 3, 0), (54, .aload_n 2, 55, 0, 0, 0),
  (55, .getfield 173, 58, 2, 3, 0), (58, .if_icmp .eq 5, 61, 63, 0, 0), (61, .iconst 0, 62, 0, 0, 0), (62, .ireturn, 63, 0, 0, 0), (63, .aload_n 3, 64, 0, 0, 0), (64, .getfield 254, 67, 3, 0, 0),
  (67, .lookupswitch 41 #[(1, 25), (2, 33)], 92, 4, 108, 0), (92, .aload_n 2, 93, 0, 0, 0), (93, .aload_n 3, 94, 0, 0, 0), (94, .invokestatic 266, 97, 33, 2, 0), (97, .goto 17, 100, 114, 0, 0), (100, .aload_n 0, 101, 0, 0, 0),
  (101, .aload_n 3, 102, 0, 0, 0), (102, .invokevirtual 270, 105, 34, 2, 0), (105, .goto 9, 108, 114, 0, 0), (108, .aload_n 0, 109, 0, 0, 0), (109, .aload_n 2, 110, 0, 0, 0), (110, .aload_n 3, 111, 0, 0, 0),
  (111, .invokevirtual 274, 114, 35, 3, 0), (114, .iconst 1, 115, 0, 0, 1), (115, .ireturn, 116, 0, 0, 0)]
/-- 31: RingBridges.carryFrame(LRingBridges$Ring;LRingBridges$Node;LRingBridges$Frame;)Z -/
def rb_c31 : List (Nat × rb_I) := [(0, .aload_n 3, 1, 0, 0, 0), (1, .getfield 262, 4, 3, 4, 0), (4, .invokestatic 277, 7, 38, 1, 0), (7, .aload_n 2, 8, 0, 0, 0), (8, .getfield 173, 11, 2, 3, 0), (11, .if_icmp .eq 5, 14, 16, 0, 0),
  (14, .iconst 0, 15, 0, 0, 0), (15, .ireturn, 16, 0, 0, 0), (16, .aload_n 0, 17, 0, 0, 0), (17, .aload_n 1, 18, 0, 0, 0), (18, .aload_n 2, 19, 0, 0, 0), (19, .getfield 173, 22, 2, 3, 0),
  (22, .invokevirtual 280, 25, 24, 3, 0), (25, .astore 4, 27, 0, 0, 0), (27, .aload 4, 29, 0, 0, 0), (29, .ifnonnull 7, 32, 36, 0, 0), (32, .aconst_null, 33, 0, 0, 0), (33, .goto 12, 36, 45, 0, 0),
  (36, .aload 4, 38, 0, 0, 0), (38, .aload_n 2, 39, 0, 0, 0), (39, .getfield 173, 42, 2, 3, 0), (42, .invokevirtual 78, 45, 117, 2, 0), (45, .astore 5, 47, 0, 0, 0), (47, .aload 5, 49, 0, 0, 0),
  (49, .ifnonnull 5, 52, 54, 0, 0), (52, .iconst 0, 53, 0, 0, 0), (53, .ireturn, 54, 0, 0, 0), (54, .aload 5, 56, 0, 0, 0), (56, .aload_n 3, 57, 0, 0, 0), (57, .invokevirtual 284, 60, 97, 2, 0),
  (60, .aload 5, 62, 0, 0, 0), (62, .aload_n 3, 63, 0, 0, 0), (63, .getfield 262, 66, 3, 4, 0), (66, .invokestatic 287, 69, 39, 1, 0), (69, .putfield 262, 72, 3, 4, 0), (72, .iconst 1, 73, 0, 0, 1),
  (73, .ireturn, 74, 0, 0, 0)]
/-- 32: RingBridges.spreadFrame(LRingBridges$Ring;LRingBridges$Node;LRingBridges$Frame;)Z -/
def rb_c32 : List (Nat × rb_I) := [(0, .aload_n 0, 1, 0, 0, 0), (1, .aload_n 1, 2, 0, 0, 0), (2, .aload_n 2, 3, 0, 0, 0), (3, .getfield 173, 6, 2, 3, 0), (6, .invokevirtual 280, 9, 24, 3, 0), (9, .astore 4, 11, 0, 0, 0),
  (11, .aload 4, 13, 0, 0, 0), (13, .ifnull 13, 16, 26, 0, 0), (16, .aload_n 3, 17, 0, 0, 0), (17, .getfield 290, 20, 3, 5, 0), (20, .invokestatic 293, 23, 40, 1, 0), (23, .ifCond .eq 5, 26, 28, 0, 0),
  (26, .iconst 0, 27, 0, 0, 0), (27, .ireturn, 28, 0, 0, 0), (28, .iconst 1, 29, 0, 0, 1), (29, .aload 4, 31, 0, 0, 0), (31, .getfield 88, 34, 1, 0, 0), (34, .ishl, 35, 0, 0, 0),
  (35, .istore 5, 37, 0, 0, 0), (37, .aload_n 3, 38, 0, 0, 0), (38, .getfield 91, 41, 3, 6, 0), (41, .iload 5, 43, 0, 0, 0), (43, .iand, 44, 0, 0, 0), (44, .ifCond .eq 5, 47, 49, 0, 0),
  (47, .iconst 0, 48, 0, 0, 0), (48, .ireturn, 49, 0, 0, 0), (49, .aload 4, 51, 0, 0, 0), (51, .aload_n 2, 52, 0, 0, 0), (52, .getfield 173, 55, 2, 3, 0), (55, .invokevirtual 78, 58, 117, 2, 0),
  (58, .astore 6, 60, 0, 0, 0), (60, .aload 6, 62, 0, 0, 0), (62, .ifnonnull 5, 65, 67, 0, 0), (65, .iconst 0, 66, 0, 0, 0), (66, .ireturn, 67, 0, 0, 0), (67, .aload 6, 69, 0, 0, 0),
  (69, .aload_n 3, 70, 0, 0, 0), (70, .invokevirtual 284, 73, 97, 2, 0), (73, .aload 6, 75, 0, 0, 0), (75, .aload_n 3, 76, 0, 0, 0), (76, .getfield 290, 79, 3, 5, 0), (79, .aload_n 2, 80, 0, 0, 0),
  (80, .getfield 173, 83, 2, 3, 0), (83, .invokestatic 296, 86, 41, 2, 0), (86, .putfield 290, 89, 3, 5, 0), (89, .aload 6, 91, 0, 0, 0), (91, .aload_n 3, 92, 0, 0, 0), (92, .getfield 91, 95, 3, 6, 0),
  (95, .iload 5, 97, 0, 0, 0), (97, .ior, 98, 0, 0, 0), (98, .putfield 91, 101, 3, 6, 0), (101, .iconst 1, 102, 0, 0, 1), (102, .ireturn, 103, 0, 0, 0)]
/-- 33: RingBridges.queueReply(LRingBridges$Node;LRingBridges$Frame;)V -/
def rb_c33 : List (Nat × rb_I) := [(0, .aload_n 0, 1, 0, 0, 0), (1, .invokevirtual 299, 4, 106, 1, 0), (4, .astore_n 2, 5, 0, 0, 0), (5, .aload_n 2, 6, 0, 0, 0), (6, .ifnull 36, 9, 42, 0, 0), (9, .aload_n 2, 10, 0, 0, 0),
  (10, .iconst 2, 11, 0, 0, 2), (11, .iconst 2, 12, 0, 0, 2), (12, .aload_n 0, 13, 0, 0, 0), (13, .getfield 173, 16, 2, 3, 0), (16, .aload_n 1, 17, 0, 0, 0), (17, .getfield 303, 20, 3, 2, 0),
  (20, .invokevirtual 82, 23, 95, 5, 0), (23, .aload_n 2, 24, 0, 0, 0), (24, .aload_n 1, 25, 0, 0, 0), (25, .getfield 290, 28, 3, 5, 0), (28, .putfield 290, 31, 3, 5, 0), (31, .aload_n 2, 32, 0, 0, 0),
  (32, .aload_n 1, 33, 0, 0, 0), (33, .getfield 290, 36, 3, 5, 0), (36, .invokestatic 304, 39, 42, 1, 0), (39, .putfield 262, 42, 3, 4, 0), (42, .return_, 43, 0, 0, 0)]
/-- 34: RingBridges.learnRoute(LRingBridges$Frame;)V -/
def rb_c34 : List (Nat × rb_I) := [(0, .aload_n 0, 1, 0, 0, 0), (1, .aload_n 1, 2, 0, 0, 0), (2, .getfield 265, 5, 3, 3, 0), (5, .aload_n 1, 6, 0, 0, 0), (6, .getfield 303, 9, 3, 2, 0), (9, .invokevirtual 94, 12, 25, 3, 0),
  (12, .iconst (-1), 13, 0, 0, (-1)), (13, .if_icmp .ne 19, 16, 32, 0, 0), (16, .aload_n 0, 17, 0, 0, 0), (17, .aload_n 1, 18, 0, 0, 0), (18, .getfield 265, 21, 3, 3, 0), (21, .aload_n 1, 22, 0, 0, 0),
  (22, .getfield 303, 25, 3, 2, 0), (25, .aload_n 1, 26, 0, 0, 0), (26, .getfield 290, 29, 3, 5, 0), (29, .invokevirtual 98, 32, 26, 4, 0), (32, .return_, 33, 0, 0, 0)]
/-- 35: RingBridges.useFrame(LRingBridges$Node;LRingBridges$Frame;)V -/
def rb_c35 : List (Nat × rb_I) := [(0, .aload_n 0, 1, 0, 0, 0), (1, .aload_n 2, 2, 0, 0, 0), (2, .getfield 307, 5, 3, 7, 0), (5, .invokevirtual 106, 8, 21, 2, 0), (8, .astore_n 3, 9, 0, 0, 0), (9, .aload_n 3, 10, 0, 0, 0),
  (10, .ifnull 22, 13, 32, 0, 0), (13, .aload_n 3, 14, 0, 0, 0), (14, .getfield 102, 17, 5, 3, 0), (17, .iconst 1, 18, 0, 0, 1), (18, .if_icmp .ne 14, 21, 32, 0, 0), (21, .aload_n 3, 22, 0, 0, 0),
  (22, .getfield 310, 25, 5, 4, 0), (25, .aload_n 2, 26, 0, 0, 0), (26, .getfield 313, 29, 3, 8, 0), (29, .if_icmp .eq 4, 32, 33, 0, 0), (32, .return_, 33, 0, 0, 0), (33, .aload_n 2, 34, 0, 0, 0),
  (34, .getfield 254, 37, 3, 0, 0), (37, .iconst 3, 38, 0, 0, 3), (38, .if_icmp .ne 32, 41, 70, 0, 0), (41, .aload_n 3, 42, 0, 0, 0), (42, .aload_n 2, 43, 0, 0, 0), (43, .getfield 314, 46, 3, 9, 0),
  (46, .aload_n 2, 47, 0, 0, 0), (47, .getfield 315, 50, 3, 10, 0), (50, .invokevirtual 318, 53, 100, 3, 0), (53, .istore 4, 55, 0, 0, 0), (55, .iload 4, 57, 0, 0, 0), (57, .ifCond .eq 10, 60, 67, 0, 0),
  (60, .aload_n 1, 61, 0, 0, 0), (61, .aload_n 3, 62, 0, 0, 0), (62, .iload 4, 64, 0, 0, 0), (64, .invokestatic 145, 67, 36, 3, 0), (67, .goto 15, 70, 82, 0, 0), (70, .aload_n 3, 71, 0, 0, 0),
  (71, .aload_n 2, 72, 0, 0, 0), (72, .getfield 254, 75, 3, 0, 0), (75, .aload_n 2, 76, 0, 0, 0), (76, .getfield 314, 79, 3, 9, 0), (79, .invokevirtual 321, 82, 101, 3, 0), (82, .return_, 83, 0, 0, 0)]
/-- 36: RingBridges.queueAnswer(LRingBridges$Node;LRingBridges$Link;I)V -/
def rb_c36 : List (Nat × rb_I) := [(0, .aload_n 0, 1, 0, 0, 0), (1, .invokevirtual 299, 4, 106, 1, 0), (4, .astore_n 3, 5, 0, 0, 0), (5, .aload_n 3, 6, 0, 0, 0), (6, .ifnull 40, 9, 46, 0, 0), (9, .aload_n 3, 10, 0, 0, 0),
  (10, .iload_n 2, 11, 0, 0, 0), (11, .iconst 2, 12, 0, 0, 2), (12, .aload_n 1, 13, 0, 0, 0), (13, .getfield 135, 16, 5, 6, 0), (16, .aload_n 1, 17, 0, 0, 0), (17, .getfield 206, 20, 5, 5, 0),
  (20, .invokevirtual 82, 23, 95, 5, 0), (23, .aload_n 3, 24, 0, 0, 0), (24, .aload_n 1, 25, 0, 0, 0), (25, .getfield 325, 28, 5, 8, 0), (28, .invokestatic 304, 31, 42, 1, 0), (31, .putfield 262, 34, 3, 4, 0),
  (34, .aload_n 3, 35, 0, 0, 0), (35, .aload_n 1, 36, 0, 0, 0), (36, .aload_n 1, 37, 0, 0, 0), (37, .getfield 195, 40, 5, 13, 0), (40, .bipush 7, 42, 0, 0, 7), (42, .iand, 43, 0, 0, 0),
  (43, .invokevirtual 326, 46, 96, 3, 0), (46, .return_, 47, 0, 0, 0)]
/-- 37: RingBridges.queueData(LRingBridges$Link;)V -/
def rb_c37 : List (Nat × rb_I) := [(0, .aload_n 1, 1, 0, 0, 0), (1, .getfield 102, 4, 5, 3, 0), (4, .iconst 1, 5, 0, 0, 1), (5, .if_icmp .ne 10, 8, 15, 0, 0), (8, .aload_n 1, 9, 0, 0, 0), (9, .getfield 201, 12, 5, 14, 0),
  (12, .ifCond .eq 4, 15, 16, 0, 0), (15, .return_, 16, 0, 0, 0), (16, .aload_n 0, 17, 0, 0, 0), (17, .aload_n 1, 18, 0, 0, 0), (18, .getfield 206, 21, 5, 5, 0), (21, .invokevirtual 138, 24, 23, 2, 0),
  (24, .astore_n 2, 25, 0, 0, 0), (25, .aload_n 2, 26, 0, 0, 0), (26, .ifnonnull 4, 29, 30, 0, 0), (29, .return_, 30, 0, 0, 0), (30, .aload_n 1, 31, 0, 0, 0), (31, .getfield 194, 34, 5, 10, 0),
  (34, .iconst 3, 35, 0, 0, 3), (35, .if_icmp .ge 103, 38, 138, 0, 0), (38, .aload_n 1, 39, 0, 0, 0), (39, .getfield 194, 42, 5, 10, 0), (42, .aload_n 1, 43, 0, 0, 0), (43, .getfield 110, 46, 5, 1, 0),
  (46, .getfield 123, 49, 6, 3, 0), (49, .if_icmp .ge 89, 52, 138, 0, 0), (52, .aload_n 2, 53, 0, 0, 0), (53, .invokevirtual 142, 56, 105, 1, 0), (56, .ifCond .ne 82, 59, 138, 0, 0), (59, .aload_n 2, 60, 0, 0, 0),
  (60, .invokevirtual 299, 63, 106, 1, 0), (63, .astore_n 3, 64, 0, 0, 0), (64, .aload_n 3, 65, 0, 0, 0), (65, .ifnull 60, 68, 125, 0, 0), (68, .aload_n 3, 69, 0, 0, 0), (69, .iconst 3, 70, 0, 0, 3),
  (70, .aload_n 1, 71, 0, 0, 0), (71, .getfield 330, 74, 5, 7, 0), (74, .aload_n 1, 75, 0, 0, 0), (75, .getfield 206, 78, 5, 5, 0), (78, .aload_n 1, 79, 0, 0, 0), (79, .getfield 135, 82, 5, 6, 0),
  (82, .invokevirtual 82, 85, 95, 5, 0), (85, .aload_n 3, 86, 0, 0, 0), (86, .aload_n 1, 87, 0, 0, 0), (87, .getfield 325, 90, 5, 8, 0), (90, .putfield 262, 93, 3, 4, 0), (93, .aload_n 3, 94, 0, 0, 0),
  (94, .aload_n 1, 95, 0, 0, 0), (95, .aload_n 1, 96, 0, 0, 0), (96, .getfield 191, 99, 5, 9, 0), (99, .aload_n 1, 100, 0, 0, 0), (100, .getfield 194, 103, 5, 10, 0), (103, .iadd, 104, 0, 0, 0),
  (104, .bipush 7, 106, 0, 0, 7), (106, .iand, 107, 0, 0, 0), (107, .invokevirtual 326, 110, 96, 3, 0), (110, .aload_n 3, 111, 0, 0, 0), (111, .aload_n 1, 112, 0, 0, 0), (112, .getfield 110, 115, 5, 1, 0),
  (115, .aload_n 1, 116, 0, 0, 0), (116, .getfield 194, 119, 5, 10, 0), (119, .invokevirtual 126, 122, 92, 2, 0), (122, .putfield 315, 125, 3, 10, 0), (125, .aload_n 1, 126, 0, 0, 0), (126, .dup, 127, 0, 0, 0),
  (127, .getfield 194, 130, 5, 10, 0), (130, .iconst 1, 131, 0, 0, 1), (131, .iadd, 132, 0, 0, 0), (132, .putfield 194, 135, 5, 10, 0), (135, .goto (-105), 138, 30, 0, 0), (138, .return_, 139, 0, 0, 0)]
/-- 38: RingBridges.firstPort(I)I -/
def rb_c38 : List (Nat × rb_I) := [(0, .iload_n 0, 1, 0, 0, 0), (1, .ifCond .ne 7, 4, 8, 0, 0), (4, .iconst 0, 5, 0, 0, 0), (5, .goto 11, 8, 16, 0, 0), (8, .bipush 10, 10, 0, 0, 10), (10, .iload_n 0, 11, 0, 0, 0),
  (11, .iconst 3, 12, 0, 0, 3), (12, .iand, 13, 0, 0, 0), (13, .iadd, 14, 0, 0, 0), (14, .iconst 1, 15, 0, 0, 1), (15, .isub, 16, 0, 0, 0), (16, .ireturn, 17, 0, 0, 0)]
/-- 39: RingBridges.withoutFirst(I)I -/
def rb_c39 : List (Nat × rb_I) := [(0, .iload_n 0, 1, 0, 0, 0), (1, .iconst 2, 2, 0, 0, 2), (2, .ishr, 3, 0, 0, 0), (3, .ireturn, 4, 0, 0, 0)]
/-- 40: RingBridges.hasTwo(I)Z -/
def rb_c40 : List (Nat × rb_I) := [(0, .iload_n 0, 1, 0, 0, 0), (1, .iconst 3, 2, 0, 0, 3), (2, .if_icmp .le 7, 5, 9, 0, 0), (5, .iconst 1, 6, 0, 0, 1), (6, .goto 4, 9, 10, 0, 0), (9, .iconst 0, 10, 0, 0, 0),
  (10, .ireturn, 11, 0, 0, 0)]
/-- 41: RingBridges.withLast(II)I -/
def rb_c41 : List (Nat × rb_I) := [(0, .iload_n 1, 1, 0, 0, 0), (1, .bipush 10, 3, 0, 0, 10), (3, .isub, 4, 0, 0, 0), (4, .iconst 1, 5, 0, 0, 1), (5, .iadd, 6, 0, 0, 0), (6, .istore_n 2, 7, 0, 0, 0),
  (7, .iload_n 0, 8, 0, 0, 0), (8, .ifCond .ne 7, 11, 15, 0, 0), (11, .iload_n 2, 12, 0, 0, 0), (12, .goto 8, 15, 20, 0, 0), (15, .iload_n 0, 16, 0, 0, 0), (16, .iconst 4, 17, 0, 0, 4),
  (17, .iload_n 2, 18, 0, 0, 0), (18, .imul, 19, 0, 0, 0), (19, .iadd, 20, 0, 0, 0), (20, .ireturn, 21, 0, 0, 0)]
/-- 42: RingBridges.backwards(I)I -/
def rb_c42 : List (Nat × rb_I) := [(0, .iload_n 0, 1, 0, 0, 0), (1, .iconst 3, 2, 0, 0, 3), (2, .if_icmp .le 15, 5, 17, 0, 0), (5, .iload_n 0, 6, 0, 0, 0), (6, .iconst 2, 7, 0, 0, 2), (7, .ishr, 8, 0, 0, 0),
  (8, .iconst 4, 9, 0, 0, 4), (9, .iload_n 0, 10, 0, 0, 0), (10, .iconst 3, 11, 0, 0, 3), (11, .iand, 12, 0, 0, 0), (12, .imul, 13, 0, 0, 0), (13, .iadd, 14, 0, 0, 0),
  (14, .goto 4, 17, 18, 0, 0), (17, .iload_n 0, 18, 0, 0, 0), (18, .ireturn, 19, 0, 0, 0)]
/-- 43: RingBridgesModel.<init>()V -/
def rb_c43 : List (Nat × rb_I) := [(0, .aload_n 0, 1, 0, 0, 0), (1, .invokespecial 1, 4, 999, 1, 0), (4, .aload_n 0, 5, 0, 0, 0), (5, .bipush 15, 7, 0, 0, 15), (7, .newarray .int, 9, 0, 0, 0), (9, .putfield 7, 12, 7, 0, 0),
  (12, .aload_n 0, 13, 0, 0, 0), (13, .iconst 3, 14, 0, 0, 3), (14, .newarray .int, 16, 0, 0, 0), (16, .putfield 13, 19, 7, 1, 0), (19, .aload_n 0, 20, 0, 0, 0), (20, .bipush 15, 22, 0, 0, 15),
  (22, .newarray .boolean, 24, 1, 0, 0), (24, .putfield 16, 27, 7, 2, 0), (27, .aload_n 0, 28, 0, 0, 0), (28, .bipush 15, 30, 0, 0, 15), (30, .newarray .int, 32, 0, 0, 0), (32, .putfield 20, 35, 7, 3, 0),
  (35, .aload_n 0, 36, 0, 0, 0), (36, .bipush 15, 38, 0, 0, 15), (38, .newarray .int, 40, 0, 0, 0), (40, .putfield 23, 43, 7, 4, 0), (43, .aload_n 0, 44, 0, 0, 0), (44, .bipush 15, 46, 0, 0, 15),
  (46, .newarray .int, 48, 0, 0, 0), (48, .putfield 26, 51, 7, 5, 0), (51, .aload_n 0, 52, 0, 0, 0), (52, .bipush 120, 54, 0, 0, 120), (54, .newarray .int, 56, 0, 0, 0), (56, .putfield 29, 59, 7, 6, 0),
  (59, .aload_n 0, 60, 0, 0, 0), (60, .bipush 120, 62, 0, 0, 120), (62, .newarray .int, 64, 0, 0, 0), (64, .putfield 32, 67, 7, 7, 0), (67, .aload_n 0, 68, 0, 0, 0), (68, .bipush 64, 70, 0, 0, 64),
  (70, .newarray .int, 72, 0, 0, 0), (72, .putfield 35, 75, 7, 8, 0), (75, .aload_n 0, 76, 0, 0, 0), (76, .bipush 64, 78, 0, 0, 64), (78, .newarray .int, 80, 0, 0, 0), (80, .putfield 38, 83, 7, 9, 0),
  (83, .aload_n 0, 84, 0, 0, 0), (84, .bipush 64, 86, 0, 0, 64), (86, .newarray .int, 88, 0, 0, 0), (88, .putfield 41, 91, 7, 10, 0), (91, .aload_n 0, 92, 0, 0, 0), (92, .bipush 64, 94, 0, 0, 64),
  (94, .newarray .int, 96, 0, 0, 0), (96, .putfield 44, 99, 7, 11, 0), (99, .aload_n 0, 100, 0, 0, 0), (100, .bipush 64, 102, 0, 0, 64), (102, .newarray .int, 104, 0, 0, 0), (104, .putfield 47, 107, 7, 12, 0),
  (107, .aload_n 0, 108, 0, 0, 0), (108, .bipush 64, 110, 0, 0, 64), (110, .newarray .int, 112, 0, 0, 0), (112, .putfield 50, 115, 7, 13, 0), (115, .aload_n 0, 116, 0, 0, 0), (116, .bipush 64, 118, 0, 0, 64),
  (118, .newarray .int, 120, 0, 0, 0), (120, .putfield 53, 123, 7, 14, 0), (123, .aload_n 0, 124, 0, 0, 0), (124, .bipush 64, 126, 0, 0, 64), (126, .newarray .int, 128, 0, 0, 0), (128, .putfield 56, 131, 7, 15, 0),
  (131, .aload_n 0, 132, 0, 0, 0), (132, .bipush 64, 134, 0, 0, 64), (134, .newarray .int, 136, 0, 0, 0), (136, .putfield 59, 139, 7, 16, 0), (139, .aload_n 0, 140, 0, 0, 0), (140, .bipush 64, 142, 0, 0, 64),
  (142, .newarray .int, 144, 0, 0, 0), (144, .putfield 62, 147, 7, 17, 0), (147, .aload_n 0, 148, 0, 0, 0), (148, .bipush 64, 150, 0, 0, 64), (150, .newarray .int, 152, 0, 0, 0), (152, .putfield 65, 155, 7, 18, 0),
  (155, .aload_n 0, 156, 0, 0, 0), (156, .bipush 64, 158, 0, 0, 64), (158, .newarray .int, 160, 0, 0, 0), (160, .putfield 68, 163, 7, 19, 0), (163, .aload_n 0, 164, 0, 0, 0), (164, .bipush 64, 166, 0, 0, 64),
  (166, .newarray .int, 168, 0, 0, 0), (168, .putfield 71, 171, 7, 20, 0), (171, .aload_n 0, 172, 0, 0, 0), (172, .iconst 3, 173, 0, 0, 3), (173, .newarray .int, 175, 0, 0, 0), (175, .putfield 74, 178, 7, 21, 0),
  (178, .aload_n 0, 179, 0, 0, 0), (179, .iconst 3, 180, 0, 0, 3), (180, .newarray .int, 182, 0, 0, 0), (182, .putfield 77, 185, 7, 22, 0), (185, .aload_n 0, 186, 0, 0, 0), (186, .iconst 3, 187, 0, 0, 3),
  (187, .newarray .int, 189, 0, 0, 0), (189, .putfield 80, 192, 7, 23, 0), (192, .aload_n 0, 193, 0, 0, 0), (193, .iconst 3, 194, 0, 0, 3), (194, .newarray .int, 196, 0, 0, 0), (196, .putfield 83, 199, 7, 24, 0),
  (199, .aload_n 0, 200, 0, 0, 0), (200, .iconst 3, 201, 0, 0, 3), (201, .newarray .int, 203, 0, 0, 0), (203, .putfield 86, 206, 7, 25, 0), (206, .aload_n 0, 207, 0, 0, 0), (207, .iconst 3, 208, 0, 0, 3),
  (208, .newarray .boolean, 210, 1, 0, 0), (210, .putfield 89, 213, 7, 26, 0), (213, .aload_n 0, 214, 0, 0, 0), (214, .iconst 3, 215, 0, 0, 3), (215, .newarray .boolean, 217, 1, 0, 0), (217, .putfield 92, 220, 7, 27, 0),
  (220, .aload_n 0, 221, 0, 0, 0), (221, .iconst 3, 222, 0, 0, 3), (222, .newarray .boolean, 224, 1, 0, 0), (224, .putfield 95, 227, 7, 28, 0), (227, .aload_n 0, 228, 0, 0, 0), (228, .iconst 3, 229, 0, 0, 3),
  (229, .newarray .int, 231, 0, 0, 0), (231, .putfield 98, 234, 7, 29, 0), (234, .aload_n 0, 235, 0, 0, 0), (235, .iconst 3, 236, 0, 0, 3), (236, .newarray .int, 238, 0, 0, 0), (238, .putfield 101, 241, 7, 30, 0),
  (241, .aload_n 0, 242, 0, 0, 0), (242, .bipush 9, 244, 0, 0, 9), (244, .newarray .int, 246, 0, 0, 0), (246, .putfield 104, 249, 7, 31, 0), (249, .aload_n 0, 250, 0, 0, 0), (250, .bipush 81, 252, 0, 0, 81),
  (252, .newarray .boolean, 254, 1, 0, 0), (254, .putfield 107, 257, 7, 32, 0), (257, .aload_n 0, 258, 0, 0, 0), (258, .bipush 81, 260, 0, 0, 81), (260, .newarray .int, 262, 0, 0, 0), (262, .putfield 110, 265, 7, 33, 0),
  (265, .aload_n 0, 266, 0, 0, 0), (266, .bipush 81, 268, 0, 0, 81), (268, .newarray .int, 270, 0, 0, 0), (270, .putfield 113, 273, 7, 34, 0), (273, .aload_n 0, 274, 0, 0, 0), (274, .iconst 4, 275, 0, 0, 4),
  (275, .newarray .int, 277, 0, 0, 0), (277, .putfield 116, 280, 7, 35, 0), (280, .aload_n 0, 281, 0, 0, 0), (281, .iconst 4, 282, 0, 0, 4), (282, .newarray .int, 284, 0, 0, 0), (284, .putfield 119, 287, 7, 36, 0),
  (287, .aload_n 0, 288, 0, 0, 0), (288, .iconst 4, 289, 0, 0, 4), (289, .newarray .int, 291, 0, 0, 0), (291, .putfield 122, 294, 7, 37, 0), (294, .aload_n 0, 295, 0, 0, 0), (295, .iconst 4, 296, 0, 0, 4),
  (296, .newarray .int, 298, 0, 0, 0), (298, .putfield 125, 301, 7, 38, 0), (301, .aload_n 0, 302, 0, 0, 0), (302, .iconst 4, 303, 0, 0, 4), (303, .newarray .int, 305, 0, 0, 0), (305, .putfield 128, 308, 7, 39, 0),
  (308, .aload_n 0, 309, 0, 0, 0), (309, .iconst 4, 310, 0, 0, 4), (310, .newarray .int, 312, 0, 0, 0), (312, .putfield 131, 315, 7, 40, 0), (315, .aload_n 0, 316, 0, 0, 0), (316, .iconst 4, 317, 0, 0, 4),
  (317, .newarray .int, 319, 0, 0, 0), (319, .putfield 134, 322, 7, 41, 0), (322, .aload_n 0, 323, 0, 0, 0), (323, .iconst 4, 324, 0, 0, 4), (324, .newarray .int, 326, 0, 0, 0), (326, .putfield 137, 329, 7, 42, 0),
  (329, .aload_n 0, 330, 0, 0, 0), (330, .iconst 4, 331, 0, 0, 4), (331, .newarray .int, 333, 0, 0, 0), (333, .putfield 140, 336, 7, 43, 0), (336, .aload_n 0, 337, 0, 0, 0), (337, .iconst 4, 338, 0, 0, 4),
  (338, .newarray .int, 340, 0, 0, 0), (340, .putfield 143, 343, 7, 44, 0), (343, .aload_n 0, 344, 0, 0, 0), (344, .bipush 32, 346, 0, 0, 32), (346, .newarray .int, 348, 0, 0, 0), (348, .putfield 146, 351, 7, 45, 0),
  (351, .aload_n 0, 352, 0, 0, 0), (352, .iconst 4, 353, 0, 0, 4), (353, .newarray .boolean, 355, 1, 0, 0), (355, .putfield 149, 358, 7, 46, 0), (358, .aload_n 0, 359, 0, 0, 0), (359, .iconst 4, 360, 0, 0, 4),
  (360, .newarray .int, 362, 0, 0, 0), (362, .putfield 152, 365, 7, 47, 0), (365, .aload_n 0, 366, 0, 0, 0), (366, .iconst 4, 367, 0, 0, 4), (367, .newarray .int, 369, 0, 0, 0), (369, .putfield 155, 372, 7, 48, 0),
  (372, .aload_n 0, 373, 0, 0, 0), (373, .iconst 4, 374, 0, 0, 4), (374, .newarray .int, 376, 0, 0, 0), (376, .putfield 158, 379, 7, 49, 0), (379, .aload_n 0, 380, 0, 0, 0), (380, .iconst 4, 381, 0, 0, 4),
  (381, .newarray .int, 383, 0, 0, 0), (383, .putfield 161, 386, 7, 50, 0), (386, .aload_n 0, 387, 0, 0, 0), (387, .bipush 16, 389, 0, 0, 16), (389, .newarray .int, 391, 0, 0, 0), (391, .putfield 164, 394, 7, 51, 0),
  (394, .aload_n 0, 395, 0, 0, 0), (395, .iconst 4, 396, 0, 0, 4), (396, .newarray .boolean, 398, 1, 0, 0), (398, .putfield 167, 401, 7, 52, 0), (401, .aload_n 0, 402, 0, 0, 0), (402, .iconst 4, 403, 0, 0, 4),
  (403, .newarray .boolean, 405, 1, 0, 0), (405, .putfield 170, 408, 7, 53, 0), (408, .return_, 409, 0, 0, 0)]
/-- 44: RingBridgesModel.addressOf(I)I -/
def rb_c44 : List (Nat × rb_I) := [(0, .iload_n 0, 1, 0, 0, 0), (1, .bipush 9, 3, 0, 0, 9), (3, .if_icmp .ge 9, 6, 12, 0, 0), (6, .iload_n 0, 7, 0, 0, 0), (7, .iconst 1, 8, 0, 0, 1), (8, .iadd, 9, 0, 0, 0),
  (9, .goto 12, 12, 21, 0, 0), (12, .bipush 10, 14, 0, 0, 10), (14, .iload_n 0, 15, 0, 0, 0), (15, .bipush 9, 17, 0, 0, 9), (17, .isub, 18, 0, 0, 0), (18, .iconst 2, 19, 0, 0, 2),
  (19, .idiv, 20, 0, 0, 0), (20, .iadd, 21, 0, 0, 0), (21, .ireturn, 22, 0, 0, 0)]
/-- 45: RingBridgesModel.isRing(I)Z -/
def rb_c45 : List (Nat × rb_I) := [(0, .iload_n 0, 1, 0, 0, 0), (1, .ifCond .lt 12, 4, 13, 0, 0), (4, .iload_n 0, 5, 0, 0, 0), (5, .iconst 2, 6, 0, 0, 2), (6, .if_icmp .gt 7, 9, 13, 0, 0), (9, .iconst 1, 10, 0, 0, 1),
  (10, .goto 4, 13, 14, 0, 0), (13, .iconst 0, 14, 0, 0, 0), (14, .ireturn, 15, 0, 0, 0)]
/-- 46: RingBridgesModel.isAddress(I)Z -/
def rb_c46 : List (Nat × rb_I) := [(0, .iload_n 0, 1, 0, 0, 0), (1, .iconst 1, 2, 0, 0, 1), (2, .if_icmp .lt 13, 5, 15, 0, 0), (5, .iload_n 0, 6, 0, 0, 0), (6, .bipush 9, 8, 0, 0, 9), (8, .if_icmp .gt 7, 11, 15, 0, 0),
  (11, .iconst 1, 12, 0, 0, 1), (12, .goto 4, 15, 16, 0, 0), (15, .iconst 0, 16, 0, 0, 0), (16, .ireturn, 17, 0, 0, 0)]
/-- 47: RingBridgesModel.isStation(I)Z -/
def rb_c47 : List (Nat × rb_I) := [(0, .iload_n 1, 1, 0, 0, 0), (1, .invokestatic 173, 4, 46, 1, 0), (4, .ifCond .eq 18, 7, 22, 0, 0), (7, .aload_n 0, 8, 0, 0, 0), (8, .getfield 16, 11, 7, 2, 0), (11, .iload_n 1, 12, 0, 0, 0),
  (12, .iconst 1, 13, 0, 0, 1), (13, .isub, 14, 0, 0, 0), (14, .baload, 15, 0, 0, 0), (15, .ifCond .eq 7, 18, 22, 0, 0), (18, .iconst 1, 19, 0, 0, 1), (19, .goto 4, 22, 23, 0, 0),
  (22, .iconst 0, 23, 0, 0, 0), (23, .ireturn, 24, 0, 0, 0)]
/-- 48: RingBridgesModel.nodeAt(II)I -/
def rb_c48 : List (Nat × rb_I) := [(0, .iconst (-1), 1, 0, 0, (-1)), (1, .istore_n 3, 2, 0, 0, 0), (2, .iconst 0, 3, 0, 0, 0), (3, .istore 4, 5, 0, 0, 0), (5, .iload 4, 7, 0, 0, 0), (7, .bipush 15, 9, 0, 0, 15),
  (9, .if_icmp .ge 48, 12, 57, 0, 0), (12, .aload_n 0, 13, 0, 0, 0), (13, .getfield 16, 16, 7, 2, 0), (16, .iload 4, 18, 0, 0, 0), (18, .baload, 19, 0, 0, 0), (19, .ifCond .eq 30, 22, 49, 0, 0),
  (22, .aload_n 0, 23, 0, 0, 0), (23, .getfield 20, 26, 7, 3, 0), (26, .iload 4, 28, 0, 0, 0), (28, .iaload, 29, 0, 0, 0), (29, .iload_n 1, 30, 0, 0, 0), (30, .if_icmp .ne 19, 33, 49, 0, 0),
  (33, .aload_n 0, 34, 0, 0, 0), (34, .getfield 7, 37, 7, 0, 0), (37, .iload 4, 39, 0, 0, 0), (39, .iaload, 40, 0, 0, 0), (40, .iload_n 2, 41, 0, 0, 0), (41, .if_icmp .ne 8, 44, 49, 0, 0),
  (44, .iload 4, 46, 0, 0, 0), (46, .goto 4, 49, 50, 0, 0), (49, .iload_n 3, 50, 0, 0, 0), (50, .istore_n 3, 51, 0, 0, 0), (51, .iinc 4 1, 54, 0, 0, 1), (54, .goto (-49), 57, 5, 0, 0),
  (57, .iload_n 3, 58, 0, 0, 0), (58, .ireturn, 59, 0, 0, 0)]
/-- 49: RingBridgesModel.nodeWith(II)I -/
def rb_c49 : List (Nat × rb_I) := [(0, .iconst (-1), 1, 0, 0, (-1)), (1, .istore_n 3, 2, 0, 0, 0), (2, .iconst 0, 3, 0, 0, 0), (3, .istore 4, 5, 0, 0, 0), (5, .iload 4, 7, 0, 0, 0), (7, .bipush 15, 9, 0, 0, 15),
  (9, .if_icmp .ge 46, 12, 55, 0, 0), (12, .aload_n 0, 13, 0, 0, 0), (13, .getfield 16, 16, 7, 2, 0), (16, .iload 4, 18, 0, 0, 0), (18, .baload, 19, 0, 0, 0), (19, .ifCond .eq 28, 22, 47, 0, 0),
  (22, .aload_n 0, 23, 0, 0, 0), (23, .getfield 20, 26, 7, 3, 0), (26, .iload 4, 28, 0, 0, 0), (28, .iaload, 29, 0, 0, 0), (29, .iload_n 1, 30, 0, 0, 0), (30, .if_icmp .ne 17, 33, 47, 0, 0),
  (33, .iload 4, 35, 0, 0, 0), (35, .invokestatic 177, 38, 44, 1, 0), (38, .iload_n 2, 39, 0, 0, 0), (39, .if_icmp .ne 8, 42, 47, 0, 0), (42, .iload 4, 44, 0, 0, 0), (44, .goto 4, 47, 48, 0, 0),
  (47, .iload_n 3, 48, 0, 0, 0), (48, .istore_n 3, 49, 0, 0, 0), (49, .iinc 4 1, 52, 0, 0, 1), (52, .goto (-47), 55, 5, 0, 0), (55, .iload_n 3, 56, 0, 0, 0), (56, .ireturn, 57, 0, 0, 0)]
/-- 50: RingBridgesModel.behind(I)I -/
def rb_c50 : List (Nat × rb_I) := [(0, .aload_n 0, 1, 0, 0, 0), (1, .getfield 7, 4, 7, 0, 0), (4, .iload_n 1, 5, 0, 0, 0), (5, .iaload, 6, 0, 0, 0), (6, .iconst 1, 7, 0, 0, 1), (7, .iadd, 8, 0, 0, 0),
  (8, .aload_n 0, 9, 0, 0, 0), (9, .getfield 13, 12, 7, 1, 0), (12, .aload_n 0, 13, 0, 0, 0), (13, .getfield 20, 16, 7, 3, 0), (16, .iload_n 1, 17, 0, 0, 0), (17, .iaload, 18, 0, 0, 0),
  (18, .iaload, 19, 0, 0, 0), (19, .irem, 20, 0, 0, 0), (20, .ireturn, 21, 0, 0, 0)]
/-- 51: RingBridgesModel.come(II)V -/
def rb_c51 : List (Nat × rb_I) := [(0, .aload_n 0, 1, 0, 0, 0), (1, .getfield 16, 4, 7, 2, 0), (4, .iload_n 1, 5, 0, 0, 0), (5, .iconst 1, 6, 0, 0, 1), (6, .bastore, 7, 0, 0, 0), (7, .aload_n 0, 8, 0, 0, 0),
  (8, .getfield 20, 11, 7, 3, 0), (11, .iload_n 1, 12, 0, 0, 0), (12, .iload_n 2, 13, 0, 0, 0), (13, .iastore, 14, 0, 0, 0), (14, .aload_n 0, 15, 0, 0, 0), (15, .getfield 7, 18, 7, 0, 0),
  (18, .iload_n 1, 19, 0, 0, 0), (19, .aload_n 0, 20, 0, 0, 0), (20, .getfield 13, 23, 7, 1, 0), (23, .iload_n 2, 24, 0, 0, 0), (24, .iaload, 25, 0, 0, 0), (25, .iastore, 26, 0, 0, 0),
  (26, .aload_n 0, 27, 0, 0, 0), (27, .getfield 13, 30, 7, 1, 0), (30, .iload_n 2, 31, 0, 0, 0), (31, .dup2, 32, 0, 0, 0), (32, .iaload, 33, 0, 0, 0), (33, .iconst 1, 34, 0, 0, 1),
  (34, .iadd, 35, 0, 0, 0), (35, .iastore, 36, 0, 0, 0), (36, .aload_n 0, 37, 0, 0, 0), (37, .getfield 23, 40, 7, 4, 0), (40, .iload_n 1, 41, 0, 0, 0), (41, .iconst 0, 42, 0, 0, 0),
  (42, .iastore, 43, 0, 0, 0), (43, .aload_n 0, 44, 0, 0, 0), (44, .getfield 26, 47, 7, 5, 0), (47, .iload_n 1, 48, 0, 0, 0), (48, .iconst 0, 49, 0, 0, 0), (49, .iastore, 50, 0, 0, 0),
  (50, .return_, 51, 0, 0, 0)]
/-- 52: RingBridgesModel.other(I)I -/
def rb_c52 : List (Nat × rb_I) := [(0, .iload_n 0, 1, 0, 0, 0), (1, .iconst 2, 2, 0, 0, 2), (2, .irem, 3, 0, 0, 0), (3, .iconst 1, 4, 0, 0, 1), (4, .if_icmp .ne 9, 7, 13, 0, 0), (7, .iload_n 0, 8, 0, 0, 0),
  (8, .iconst 1, 9, 0, 0, 1), (9, .iadd, 10, 0, 0, 0), (10, .goto 6, 13, 16, 0, 0), (13, .iload_n 0, 14, 0, 0, 0), (14, .iconst 1, 15, 0, 0, 1), (15, .isub, 16, 0, 0, 0),
  (16, .ireturn, 17, 0, 0, 0)]
/-- 53: RingBridgesModel.copyFrame(II)V -/
def rb_c53 : List (Nat × rb_I) := [(0, .aload_n 0, 1, 0, 0, 0), (1, .getfield 35, 4, 7, 8, 0), (4, .iload_n 2, 5, 0, 0, 0), (5, .aload_n 0, 6, 0, 0, 0), (6, .getfield 35, 9, 7, 8, 0), (9, .iload_n 1, 10, 0, 0, 0),
  (10, .iaload, 11, 0, 0, 0), (11, .iastore, 12, 0, 0, 0), (12, .aload_n 0, 13, 0, 0, 0), (13, .getfield 38, 16, 7, 9, 0), (16, .iload_n 2, 17, 0, 0, 0), (17, .aload_n 0, 18, 0, 0, 0),
  (18, .getfield 38, 21, 7, 9, 0), (21, .iload_n 1, 22, 0, 0, 0), (22, .iaload, 23, 0, 0, 0), (23, .iastore, 24, 0, 0, 0), (24, .aload_n 0, 25, 0, 0, 0), (25, .getfield 41, 28, 7, 10, 0),
  (28, .iload_n 2, 29, 0, 0, 0), (29, .aload_n 0, 30, 0, 0, 0), (30, .getfield 41, 33, 7, 10, 0), (33, .iload_n 1, 34, 0, 0, 0), (34, .iaload, 35, 0, 0, 0), (35, .iastore, 36, 0, 0, 0),
  (36, .aload_n 0, 37, 0, 0, 0), (37, .getfield 44, 40, 7, 11, 0), (40, .iload_n 2, 41, 0, 0, 0), (41, .aload_n 0, 42, 0, 0, 0), (42, .getfield 44, 45, 7, 11, 0), (45, .iload_n 1, 46, 0, 0, 0),
  (46, .iaload, 47, 0, 0, 0), (47, .iastore, 48, 0, 0, 0), (48, .aload_n 0, 49, 0, 0, 0), (49, .getfield 47, 52, 7, 12, 0), (52, .iload_n 2, 53, 0, 0, 0), (53, .aload_n 0, 54, 0, 0, 0),
  (54, .getfield 47, 57, 7, 12, 0), (57, .iload_n 1, 58, 0, 0, 0), (58, .iaload, 59, 0, 0, 0), (59, .iastore, 60, 0, 0, 0), (60, .aload_n 0, 61, 0, 0, 0), (61, .getfield 50, 64, 7, 13, 0),
  (64, .iload_n 2, 65, 0, 0, 0), (65, .aload_n 0, 66, 0, 0, 0), (66, .getfield 50, 69, 7, 13, 0), (69, .iload_n 1, 70, 0, 0, 0), (70, .iaload, 71, 0, 0, 0), (71, .iastore, 72, 0, 0, 0),
  (72, .aload_n 0, 73, 0, 0, 0), (73, .getfield 53, 76, 7, 14, 0), (76, .iload_n 2, 77, 0, 0, 0), (77, .aload_n 0, 78, 0, 0, 0), (78, .getfield 53, 81, 7, 14, 0), (81, .iload_n 1, 82, 0, 0, 0),
  (82, .iaload, 83, 0, 0, 0), (83, .iastore, 84, 0, 0, 0), (84, .aload_n 0, 85, 0, 0, 0), (85, .getfield 56, 88, 7, 15, 0), (88, .iload_n 2, 89, 0, 0, 0), (89, .aload_n 0, 90, 0, 0, 0),
  (90, .getfield 56, 93, 7, 15, 0), (93, .iload_n 1, 94, 0, 0, 0), (94, .iaload, 95, 0, 0, 0), (95, .iastore, 96, 0, 0, 0), (96, .aload_n 0, 97, 0, 0, 0), (97, .getfield 59, 100, 7, 16, 0),
  (100, .iload_n 2, 101, 0, 0, 0), (101, .aload_n 0, 102, 0, 0, 0), (102, .getfield 59, 105, 7, 16, 0), (105, .iload_n 1, 106, 0, 0, 0), (106, .iaload, 107, 0, 0, 0), (107, .iastore, 108, 0, 0, 0),
  (108, .aload_n 0, 109, 0, 0, 0), (109, .getfield 62, 112, 7, 17, 0), (112, .iload_n 2, 113, 0, 0, 0), (113, .aload_n 0, 114, 0, 0, 0), (114, .getfield 62, 117, 7, 17, 0), (117, .iload_n 1, 118, 0, 0, 0),
  (118, .iaload, 119, 0, 0, 0), (119, .iastore, 120, 0, 0, 0), (120, .aload_n 0, 121, 0, 0, 0), (121, .getfield 65, 124, 7, 18, 0), (124, .iload_n 2, 125, 0, 0, 0), (125, .aload_n 0, 126, 0, 0, 0),
  (126, .getfield 65, 129, 7, 18, 0), (129, .iload_n 1, 130, 0, 0, 0), (130, .iaload, 131, 0, 0, 0), (131, .iastore, 132, 0, 0, 0), (132, .aload_n 0, 133, 0, 0, 0), (133, .getfield 68, 136, 7, 19, 0),
  (136, .iload_n 2, 137, 0, 0, 0), (137, .aload_n 0, 138, 0, 0, 0), (138, .getfield 68, 141, 7, 19, 0), (141, .iload_n 1, 142, 0, 0, 0), (142, .iaload, 143, 0, 0, 0), (143, .iastore, 144, 0, 0, 0),
  (144, .aload_n 0, 145, 0, 0, 0), (145, .getfield 71, 148, 7, 20, 0), (148, .iload_n 2, 149, 0, 0, 0), (149, .aload_n 0, 150, 0, 0, 0), (150, .getfield 71, 153, 7, 20, 0), (153, .iload_n 1, 154, 0, 0, 0),
  (154, .iaload, 155, 0, 0, 0), (155, .iastore, 156, 0, 0, 0), (156, .return_, 157, 0, 0, 0)]
/-- 54: RingBridgesModel.queueNew(I)V -/
def rb_c54 : List (Nat × rb_I) := [(0, .aload_n 0, 1, 0, 0, 0), (1, .getfield 23, 4, 7, 4, 0), (4, .iload_n 1, 5, 0, 0, 0), (5, .iaload, 6, 0, 0, 0), (6, .iconst 4, 7, 0, 0, 4), (7, .if_icmp .ne 4, 10, 11, 0, 0),
  (10, .return_, 11, 0, 0, 0), (11, .aload_n 0, 12, 0, 0, 0), (12, .bipush 63, 14, 0, 0, 63), (14, .iconst 4, 15, 0, 0, 4), (15, .iload_n 1, 16, 0, 0, 0), (16, .imul, 17, 0, 0, 0),
  (17, .aload_n 0, 18, 0, 0, 0), (18, .getfield 23, 21, 7, 4, 0), (21, .iload_n 1, 22, 0, 0, 0), (22, .iaload, 23, 0, 0, 0), (23, .iadd, 24, 0, 0, 0), (24, .invokevirtual 181, 27, 53, 3, 0),
  (27, .aload_n 0, 28, 0, 0, 0), (28, .getfield 23, 31, 7, 4, 0), (31, .iload_n 1, 32, 0, 0, 0), (32, .dup2, 33, 0, 0, 0), (33, .iaload, 34, 0, 0, 0), (34, .iconst 1, 35, 0, 0, 1),
  (35, .iadd, 36, 0, 0, 0), (36, .iastore, 37, 0, 0, 0), (37, .return_, 38, 0, 0, 0)]
/-- 55: RingBridgesModel.makeFrame(IIIIII)V -/
def rb_c55 : List (Nat × rb_I) := [(0, .aload_n 0, 1, 0, 0, 0), (1, .getfield 35, 4, 7, 8, 0), (4, .bipush 63, 6, 0, 0, 63), (6, .iload_n 1, 7, 0, 0, 0), (7, .iastore, 8, 0, 0, 0), (8, .aload_n 0, 9, 0, 0, 0),
  (9, .getfield 38, 12, 7, 9, 0), (12, .bipush 63, 14, 0, 0, 63), (14, .iload_n 2, 15, 0, 0, 0), (15, .iastore, 16, 0, 0, 0), (16, .aload_n 0, 17, 0, 0, 0), (17, .getfield 41, 20, 7, 10, 0),
  (20, .bipush 63, 22, 0, 0, 63), (22, .iload_n 3, 23, 0, 0, 0), (23, .iastore, 24, 0, 0, 0), (24, .aload_n 0, 25, 0, 0, 0), (25, .getfield 44, 28, 7, 11, 0), (28, .bipush 63, 30, 0, 0, 63),
  (30, .iload 4, 32, 0, 0, 0), (32, .iastore, 33, 0, 0, 0), (33, .aload_n 0, 34, 0, 0, 0), (34, .getfield 47, 37, 7, 12, 0), (37, .bipush 63, 39, 0, 0, 63), (39, .iload 5, 41, 0, 0, 0),
  (41, .iastore, 42, 0, 0, 0), (42, .aload_n 0, 43, 0, 0, 0), (43, .getfield 50, 46, 7, 13, 0), (46, .bipush 63, 48, 0, 0, 63), (48, .iload 6, 50, 0, 0, 0), (50, .iastore, 51, 0, 0, 0),
  (51, .aload_n 0, 52, 0, 0, 0), (52, .getfield 53, 55, 7, 14, 0), (55, .bipush 63, 57, 0, 0, 63), (57, .iconst (-1), 58, 0, 0, (-1)), (58, .iastore, 59, 0, 0, 0), (59, .aload_n 0, 60, 0, 0, 0),
  (60, .getfield 56, 63, 7, 15, 0), (63, .bipush 63, 65, 0, 0, 63), (65, .iconst (-1), 66, 0, 0, (-1)), (66, .iastore, 67, 0, 0, 0), (67, .aload_n 0, 68, 0, 0, 0), (68, .getfield 59, 71, 7, 16, 0),
  (71, .bipush 63, 73, 0, 0, 63), (73, .iconst 0, 74, 0, 0, 0), (74, .iastore, 75, 0, 0, 0), (75, .aload_n 0, 76, 0, 0, 0), (76, .getfield 62, 79, 7, 17, 0), (79, .bipush 63, 81, 0, 0, 63),
  (81, .iconst 0, 82, 0, 0, 0), (82, .iastore, 83, 0, 0, 0), (83, .aload_n 0, 84, 0, 0, 0), (84, .getfield 65, 87, 7, 18, 0), (87, .bipush 63, 89, 0, 0, 63), (89, .iconst 0, 90, 0, 0, 0),
  (90, .iastore, 91, 0, 0, 0), (91, .return_, 92, 0, 0, 0)]
/-- 56: RingBridgesModel.wish(I)I -/
def rb_c56 : List (Nat × rb_I) := [(0, .aload_n 0, 1, 0, 0, 0), (1, .getfield 23, 4, 7, 4, 0), (4, .iload_n 1, 5, 0, 0, 0), (5, .iaload, 6, 0, 0, 0), (6, .ifCond .ne 7, 9, 13, 0, 0), (9, .iconst (-1), 10, 0, 0, (-1)),
  (10, .goto 11, 13, 21, 0, 0), (13, .aload_n 0, 14, 0, 0, 0), (14, .getfield 38, 17, 7, 9, 0), (17, .iconst 4, 18, 0, 0, 4), (18, .iload_n 1, 19, 0, 0, 0), (19, .imul, 20, 0, 0, 0),
  (20, .iaload, 21, 0, 0, 0), (21, .ireturn, 22, 0, 0, 0)]
/-- 57: RingBridgesModel.purge(I)V -/
def rb_c57 : List (Nat × rb_I) := [(0, .aload_n 0, 1, 0, 0, 0), (1, .iload_n 1, 2, 0, 0, 0), (2, .aload_n 0, 3, 0, 0, 0), (3, .getfield 101, 6, 7, 30, 0), (6, .iload_n 1, 7, 0, 0, 0), (7, .iaload, 8, 0, 0, 0),
  (8, .invokevirtual 185, 11, 49, 3, 0), (11, .istore_n 2, 12, 0, 0, 0), (12, .aload_n 0, 13, 0, 0, 0), (13, .getfield 74, 16, 7, 21, 0), (16, .iload_n 1, 17, 0, 0, 0), (17, .iconst 4, 18, 0, 0, 4),
  (18, .iastore, 19, 0, 0, 0), (19, .aload_n 0, 20, 0, 0, 0), (20, .getfield 98, 23, 7, 29, 0), (23, .iload_n 1, 24, 0, 0, 0), (24, .aload_n 0, 25, 0, 0, 0), (25, .getfield 101, 28, 7, 30, 0),
  (28, .iload_n 1, 29, 0, 0, 0), (29, .iaload, 30, 0, 0, 0), (30, .iastore, 31, 0, 0, 0), (31, .aload_n 0, 32, 0, 0, 0), (32, .getfield 77, 35, 7, 22, 0), (35, .iload_n 1, 36, 0, 0, 0),
  (36, .aload_n 0, 37, 0, 0, 0), (37, .iload_n 2, 38, 0, 0, 0), (38, .invokevirtual 189, 41, 50, 2, 0), (41, .iastore, 42, 0, 0, 0), (42, .aload_n 0, 43, 0, 0, 0), (43, .getfield 104, 46, 7, 31, 0),
  (46, .iconst 3, 47, 0, 0, 3), (47, .iload_n 1, 48, 0, 0, 0), (48, .imul, 49, 0, 0, 0), (49, .dup2, 50, 0, 0, 0), (50, .iaload, 51, 0, 0, 0), (51, .iconst 1, 52, 0, 0, 1),
  (52, .iadd, 53, 0, 0, 0), (53, .iastore, 54, 0, 0, 0), (54, .return_, 55, 0, 0, 0)]
/-- 58: RingBridgesModel.setToken(III)V -/
def rb_c58 : List (Nat × rb_I) := [(0, .aload_n 0, 1, 0, 0, 0), (1, .getfield 74, 4, 7, 21, 0), (4, .iload_n 1, 5, 0, 0, 0), (5, .iconst 1, 6, 0, 0, 1), (6, .iastore, 7, 0, 0, 0), (7, .aload_n 0, 8, 0, 0, 0),
  (8, .getfield 83, 11, 7, 24, 0), (11, .iload_n 1, 12, 0, 0, 0), (12, .iload_n 2, 13, 0, 0, 0), (13, .iastore, 14, 0, 0, 0), (14, .aload_n 0, 15, 0, 0, 0), (15, .getfield 86, 18, 7, 25, 0),
  (18, .iload_n 1, 19, 0, 0, 0), (19, .iload_n 3, 20, 0, 0, 0), (20, .iastore, 21, 0, 0, 0), (21, .aload_n 0, 22, 0, 0, 0), (22, .getfield 89, 25, 7, 26, 0), (25, .iload_n 1, 26, 0, 0, 0),
  (26, .iconst 0, 27, 0, 0, 0), (27, .bastore, 28, 0, 0, 0), (28, .aload_n 0, 29, 0, 0, 0), (29, .getfield 92, 32, 7, 27, 0), (32, .iload_n 1, 33, 0, 0, 0), (33, .iconst 0, 34, 0, 0, 0),
  (34, .bastore, 35, 0, 0, 0), (35, .aload_n 0, 36, 0, 0, 0), (36, .getfield 95, 39, 7, 28, 0), (39, .iload_n 1, 40, 0, 0, 0), (40, .iconst 0, 41, 0, 0, 0), (41, .bastore, 42, 0, 0, 0),
  (42, .return_, 43, 0, 0, 0)]
/-- 59: RingBridgesModel.watch(II)Z -/
def rb_c59 : List (Nat × rb_I) := [(0, .iload_n 2, 1, 0, 0, 0), (1, .invokestatic 177, 4, 44, 1, 0), (4, .aload_n 0, 5, 0, 0, 0), (5, .getfield 101, 8, 7, 30, 0), (8, .iload_n 1, 9, 0, 0, 0), (9, .iaload, 10, 0, 0, 0),
  (10, .if_icmp .eq 5, 13, 15, 0, 0), (13, .iconst 0, 14, 0, 0, 0), (14, .ireturn, 15, 0, 0, 0), (15, .aload_n 0, 16, 0, 0, 0), (16, .getfield 74, 19, 7, 21, 0), (19, .iload_n 1, 20, 0, 0, 0),
  (20, .iaload, 21, 0, 0, 0), (21, .iconst 1, 22, 0, 0, 1), (22, .if_icmp .ne 14, 25, 36, 0, 0), (25, .aload_n 0, 26, 0, 0, 0), (26, .getfield 83, 29, 7, 24, 0), (29, .iload_n 1, 30, 0, 0, 0),
  (30, .iaload, 31, 0, 0, 0), (31, .ifCond .ne 5, 34, 36, 0, 0), (34, .iconst 0, 35, 0, 0, 0), (35, .ireturn, 36, 0, 0, 0), (36, .aload_n 0, 37, 0, 0, 0), (37, .getfield 89, 40, 7, 26, 0),
  (40, .iload_n 1, 41, 0, 0, 0), (41, .baload, 42, 0, 0, 0), (42, .ifCond .eq 10, 45, 52, 0, 0), (45, .aload_n 0, 46, 0, 0, 0), (46, .iload_n 1, 47, 0, 0, 0), (47, .invokevirtual 192, 50, 57, 2, 0),
  (50, .iconst 1, 51, 0, 0, 1), (51, .ireturn, 52, 0, 0, 0), (52, .aload_n 0, 53, 0, 0, 0), (53, .getfield 89, 56, 7, 26, 0), (56, .iload_n 1, 57, 0, 0, 0), (57, .iconst 1, 58, 0, 0, 1),
  (58, .bastore, 59, 0, 0, 0), (59, .iconst 0, 60, 0, 0, 0), (60, .ireturn, 61, 0, 0, 0)]
/-- 60: RingBridgesModel.token(II)V -/
def rb_c60 : List (Nat × rb_I) := [(0, .aload_n 0, 1, 0, 0, 0), (1, .iload_n 1, 2, 0, 0, 0), (2, .iload_n 2, 3, 0, 0, 0), (3, .invokevirtual 196, 6, 59, 3, 0), (6, .ifCond .eq 4, 9, 10, 0, 0), (9, .return_, 10, 0, 0, 0),
  (10, .bipush 8, 12, 0, 0, 8), (12, .iload_n 2, 13, 0, 0, 0), (13, .imul, 14, 0, 0, 0), (14, .aload_n 0, 15, 0, 0, 0), (15, .getfield 26, 18, 7, 5, 0), (18, .iload_n 2, 19, 0, 0, 0),
  (19, .iaload, 20, 0, 0, 0), (20, .iadd, 21, 0, 0, 0), (21, .iconst 1, 22, 0, 0, 1), (22, .isub, 23, 0, 0, 0), (23, .istore_n 3, 24, 0, 0, 0), (24, .aload_n 0, 25, 0, 0, 0),
  (25, .getfield 26, 28, 7, 5, 0), (28, .iload_n 2, 29, 0, 0, 0), (29, .iaload, 30, 0, 0, 0), (30, .ifCond .le 96, 33, 126, 0, 0), (33, .aload_n 0, 34, 0, 0, 0), (34, .getfield 32, 37, 7, 7, 0),
  (37, .iload_n 3, 38, 0, 0, 0), (38, .iaload, 39, 0, 0, 0), (39, .aload_n 0, 40, 0, 0, 0), (40, .getfield 83, 43, 7, 24, 0), (43, .iload_n 1, 44, 0, 0, 0), (44, .iaload, 45, 0, 0, 0),
  (45, .if_icmp .ne 81, 48, 126, 0, 0), (48, .aload_n 0, 49, 0, 0, 0), (49, .getfield 86, 52, 7, 25, 0), (52, .iload_n 1, 53, 0, 0, 0), (53, .iaload, 54, 0, 0, 0), (54, .aload_n 0, 55, 0, 0, 0),
  (55, .getfield 29, 58, 7, 6, 0), (58, .iload_n 3, 59, 0, 0, 0), (59, .iaload, 60, 0, 0, 0), (60, .if_icmp .le 37, 63, 97, 0, 0), (63, .aload_n 0, 64, 0, 0, 0), (64, .getfield 32, 67, 7, 7, 0),
  (67, .iload_n 3, 68, 0, 0, 0), (68, .aload_n 0, 69, 0, 0, 0), (69, .getfield 86, 72, 7, 25, 0), (72, .iload_n 1, 73, 0, 0, 0), (73, .iaload, 74, 0, 0, 0), (74, .iastore, 75, 0, 0, 0),
  (75, .aload_n 0, 76, 0, 0, 0), (76, .getfield 83, 79, 7, 24, 0), (79, .iload_n 1, 80, 0, 0, 0), (80, .aload_n 0, 81, 0, 0, 0), (81, .getfield 86, 84, 7, 25, 0), (84, .iload_n 1, 85, 0, 0, 0),
  (85, .iaload, 86, 0, 0, 0), (86, .iastore, 87, 0, 0, 0), (87, .aload_n 0, 88, 0, 0, 0), (88, .getfield 86, 91, 7, 25, 0), (91, .iload_n 1, 92, 0, 0, 0), (92, .iconst 0, 93, 0, 0, 0),
  (93, .iastore, 94, 0, 0, 0), (94, .goto 25, 97, 119, 0, 0), (97, .aload_n 0, 98, 0, 0, 0), (98, .getfield 26, 101, 7, 5, 0), (101, .iload_n 2, 102, 0, 0, 0), (102, .dup2, 103, 0, 0, 0),
  (103, .iaload, 104, 0, 0, 0), (104, .iconst 1, 105, 0, 0, 1), (105, .isub, 106, 0, 0, 0), (106, .iastore, 107, 0, 0, 0), (107, .aload_n 0, 108, 0, 0, 0), (108, .getfield 83, 111, 7, 24, 0),
  (111, .iload_n 1, 112, 0, 0, 0), (112, .aload_n 0, 113, 0, 0, 0), (113, .getfield 29, 116, 7, 6, 0), (116, .iload_n 3, 117, 0, 0, 0), (117, .iaload, 118, 0, 0, 0), (118, .iastore, 119, 0, 0, 0),
  (119, .aload_n 0, 120, 0, 0, 0), (120, .getfield 89, 123, 7, 26, 0), (123, .iload_n 1, 124, 0, 0, 0), (124, .iconst 0, 125, 0, 0, 0), (125, .bastore, 126, 0, 0, 0), (126, .aload_n 0, 127, 0, 0, 0),
  (127, .iload_n 2, 128, 0, 0, 0), (128, .invokevirtual 200, 131, 56, 2, 0), (131, .istore 4, 133, 0, 0, 0), (133, .iload 4, 135, 0, 0, 0), (135, .aload_n 0, 136, 0, 0, 0), (136, .getfield 83, 139, 7, 24, 0),
  (139, .iload_n 1, 140, 0, 0, 0), (140, .iaload, 141, 0, 0, 0), (141, .if_icmp .lt 124, 144, 265, 0, 0), (144, .aload_n 0, 145, 0, 0, 0), (145, .iconst 4, 146, 0, 0, 4), (146, .iload_n 2, 147, 0, 0, 0),
  (147, .imul, 148, 0, 0, 0), (148, .bipush 60, 150, 0, 0, 60), (150, .iload_n 1, 151, 0, 0, 0), (151, .iadd, 152, 0, 0, 0), (152, .invokevirtual 181, 155, 53, 3, 0), (155, .aload_n 0, 156, 0, 0, 0),
  (156, .getfield 23, 159, 7, 4, 0), (159, .iload_n 2, 160, 0, 0, 0), (160, .dup2, 161, 0, 0, 0), (161, .iaload, 162, 0, 0, 0), (162, .iconst 1, 163, 0, 0, 1), (163, .isub, 164, 0, 0, 0),
  (164, .iastore, 165, 0, 0, 0), (165, .iconst 0, 166, 0, 0, 0), (166, .istore 5, 168, 0, 0, 0), (168, .iload 5, 170, 0, 0, 0), (170, .aload_n 0, 171, 0, 0, 0), (171, .getfield 23, 174, 7, 4, 0),
  (174, .iload_n 2, 175, 0, 0, 0), (175, .iaload, 176, 0, 0, 0), (176, .if_icmp .ge 27, 179, 203, 0, 0), (179, .aload_n 0, 180, 0, 0, 0), (180, .iconst 4, 181, 0, 0, 4), (181, .iload_n 2, 182, 0, 0, 0),
  (182, .imul, 183, 0, 0, 0), (183, .iload 5, 185, 0, 0, 0), (185, .iadd, 186, 0, 0, 0), (186, .iconst 1, 187, 0, 0, 1), (187, .iadd, 188, 0, 0, 0), (188, .iconst 4, 189, 0, 0, 4),
  (189, .iload_n 2, 190, 0, 0, 0), (190, .imul, 191, 0, 0, 0), (191, .iload 5, 193, 0, 0, 0), (193, .iadd, 194, 0, 0, 0), (194, .invokevirtual 181, 197, 53, 3, 0), (197, .iinc 5 1, 200, 0, 0, 1),
  (200, .goto (-32), 203, 168, 0, 0), (203, .aload_n 0, 204, 0, 0, 0), (204, .getfield 74, 207, 7, 21, 0), (207, .iload_n 1, 208, 0, 0, 0), (208, .iconst 2, 209, 0, 0, 2), (209, .iastore, 210, 0, 0, 0),
  (210, .aload_n 0, 211, 0, 0, 0), (211, .getfield 86, 214, 7, 25, 0), (214, .iload_n 1, 215, 0, 0, 0), (215, .iconst 0, 216, 0, 0, 0), (216, .iastore, 217, 0, 0, 0), (217, .aload_n 0, 218, 0, 0, 0),
  (218, .getfield 89, 221, 7, 26, 0), (221, .iload_n 1, 222, 0, 0, 0), (222, .iconst 0, 223, 0, 0, 0), (223, .bastore, 224, 0, 0, 0), (224, .aload_n 0, 225, 0, 0, 0), (225, .getfield 92, 228, 7, 27, 0),
  (228, .iload_n 1, 229, 0, 0, 0), (229, .iconst 0, 230, 0, 0, 0), (230, .bastore, 231, 0, 0, 0), (231, .aload_n 0, 232, 0, 0, 0), (232, .getfield 95, 235, 7, 28, 0), (235, .iload_n 1, 236, 0, 0, 0),
  (236, .iconst 0, 237, 0, 0, 0), (237, .bastore, 238, 0, 0, 0), (238, .aload_n 0, 239, 0, 0, 0), (239, .getfield 98, 242, 7, 29, 0), (242, .iload_n 1, 243, 0, 0, 0), (243, .iload_n 2, 244, 0, 0, 0),
  (244, .invokestatic 177, 247, 44, 1, 0), (247, .iastore, 248, 0, 0, 0), (248, .aload_n 0, 249, 0, 0, 0), (249, .getfield 104, 252, 7, 31, 0), (252, .iconst 3, 253, 0, 0, 3), (253, .iload_n 1, 254, 0, 0, 0),
  (254, .imul, 255, 0, 0, 0), (255, .iconst 1, 256, 0, 0, 1), (256, .iadd, 257, 0, 0, 0), (257, .dup2, 258, 0, 0, 0), (258, .iaload, 259, 0, 0, 0), (259, .iconst 1, 260, 0, 0, 1),
  (260, .iadd, 261, 0, 0, 0), (261, .iastore, 262, 0, 0, 0), (262, .goto 22, 265, 284, 0, 0), (265, .iload 4, 267, 0, 0, 0), (267, .aload_n 0, 268, 0, 0, 0), (268, .getfield 86, 271, 7, 25, 0),
  (271, .iload_n 1, 272, 0, 0, 0), (272, .iaload, 273, 0, 0, 0), (273, .if_icmp .le 11, 276, 284, 0, 0), (276, .aload_n 0, 277, 0, 0, 0), (277, .getfield 86, 280, 7, 25, 0), (280, .iload_n 1, 281, 0, 0, 0),
  (281, .iload 4, 283, 0, 0, 0), (283, .iastore, 284, 0, 0, 0), (284, .return_, 285, 0, 0, 0)]
/-- 61: RingBridgesModel.frame(II)V -/
def rb_c61 : List (Nat × rb_I) := [(0, .aload_n 0, 1, 0, 0, 0), (1, .iload_n 2, 2, 0, 0, 0), (2, .invokevirtual 200, 5, 56, 2, 0), (5, .istore_n 3, 6, 0, 0, 0), (6, .iload_n 2, 7, 0, 0, 0), (7, .invokestatic 177, 10, 44, 1, 0),
  (10, .aload_n 0, 11, 0, 0, 0), (11, .getfield 98, 14, 7, 29, 0), (14, .iload_n 1, 15, 0, 0, 0), (15, .iaload, 16, 0, 0, 0), (16, .if_icmp .ne 134, 19, 150, 0, 0), (19, .aload_n 0, 20, 0, 0, 0),
  (20, .getfield 104, 23, 7, 31, 0), (23, .iconst 3, 24, 0, 0, 3), (24, .iload_n 1, 25, 0, 0, 0), (25, .imul, 26, 0, 0, 0), (26, .iconst 2, 27, 0, 0, 2), (27, .iadd, 28, 0, 0, 0),
  (28, .dup2, 29, 0, 0, 0), (29, .iaload, 30, 0, 0, 0), (30, .aload_n 0, 31, 0, 0, 0), (31, .getfield 95, 34, 7, 28, 0), (34, .iload_n 1, 35, 0, 0, 0), (35, .baload, 36, 0, 0, 0),
  (36, .ifCond .eq 7, 39, 43, 0, 0), (39, .iconst 0, 40, 0, 0, 0), (40, .goto 4, 43, 44, 0, 0), (43, .iconst 1, 44, 0, 0, 1), (44, .iadd, 45, 0, 0, 0), (45, .iastore, 46, 0, 0, 0),
  (46, .iload_n 3, 47, 0, 0, 0), (47, .aload_n 0, 48, 0, 0, 0), (48, .getfield 86, 51, 7, 25, 0), (51, .iload_n 1, 52, 0, 0, 0), (52, .iaload, 53, 0, 0, 0), (53, .if_icmp .le 7, 56, 60, 0, 0),
  (56, .iload_n 3, 57, 0, 0, 0), (57, .goto 9, 60, 66, 0, 0), (60, .aload_n 0, 61, 0, 0, 0), (61, .getfield 86, 64, 7, 25, 0), (64, .iload_n 1, 65, 0, 0, 0), (65, .iaload, 66, 0, 0, 0),
  (66, .istore 4, 68, 0, 0, 0), (68, .aload_n 0, 69, 0, 0, 0), (69, .getfield 83, 72, 7, 24, 0), (72, .iload_n 1, 73, 0, 0, 0), (73, .iaload, 74, 0, 0, 0), (74, .istore 5, 76, 0, 0, 0),
  (76, .iload 4, 78, 0, 0, 0), (78, .iload 5, 80, 0, 0, 0), (80, .if_icmp .le 60, 83, 140, 0, 0), (83, .aload_n 0, 84, 0, 0, 0), (84, .getfield 29, 87, 7, 6, 0), (87, .bipush 8, 89, 0, 0, 8),
  (89, .iload_n 2, 90, 0, 0, 0), (90, .imul, 91, 0, 0, 0), (91, .aload_n 0, 92, 0, 0, 0), (92, .getfield 26, 95, 7, 5, 0), (95, .iload_n 2, 96, 0, 0, 0), (96, .iaload, 97, 0, 0, 0),
  (97, .iadd, 98, 0, 0, 0), (98, .iload 5, 100, 0, 0, 0), (100, .iastore, 101, 0, 0, 0), (101, .aload_n 0, 102, 0, 0, 0), (102, .getfield 32, 105, 7, 7, 0), (105, .bipush 8, 107, 0, 0, 8),
  (107, .iload_n 2, 108, 0, 0, 0), (108, .imul, 109, 0, 0, 0), (109, .aload_n 0, 110, 0, 0, 0), (110, .getfield 26, 113, 7, 5, 0), (113, .iload_n 2, 114, 0, 0, 0), (114, .iaload, 115, 0, 0, 0),
  (115, .iadd, 116, 0, 0, 0), (116, .iload 4, 118, 0, 0, 0), (118, .iastore, 119, 0, 0, 0), (119, .aload_n 0, 120, 0, 0, 0), (120, .getfield 26, 123, 7, 5, 0), (123, .iload_n 2, 124, 0, 0, 0),
  (124, .dup2, 125, 0, 0, 0), (125, .iaload, 126, 0, 0, 0), (126, .iconst 1, 127, 0, 0, 1), (127, .iadd, 128, 0, 0, 0), (128, .iastore, 129, 0, 0, 0), (129, .aload_n 0, 130, 0, 0, 0),
  (130, .iload_n 1, 131, 0, 0, 0), (131, .iload 4, 133, 0, 0, 0), (133, .iconst 0, 134, 0, 0, 0), (134, .invokevirtual 203, 137, 58, 4, 0), (137, .goto 12, 140, 149, 0, 0), (140, .aload_n 0, 141, 0, 0, 0),
  (141, .iload_n 1, 142, 0, 0, 0), (142, .iload 5, 144, 0, 0, 0), (144, .iload 4, 146, 0, 0, 0), (146, .invokevirtual 203, 149, 58, 4, 0), (149, .return_, 150, 0, 0, 0), (150, .aload_n 0, 151, 0, 0, 0),
  (151, .iload_n 1, 152, 0, 0, 0), (152, .iload_n 2, 153, 0, 0, 0), (153, .invokevirtual 196, 156, 59, 3, 0), (156, .ifCond .eq 4, 159, 160, 0, 0), (159, .return_, 160, 0, 0, 0), (160, .aload_n 0, 161, 0, 0, 0),
  (161, .getfield 92, 164, 7, 27, 0), (164, .iload_n 1, 165, 0, 0, 0), (165, .baload, 166, 0, 0, 0), (166, .ifCond .ne 9, 169, 175, 0, 0), (169, .aload_n 0, 170, 0, 0, 0), (170, .iload_n 1, 171, 0, 0, 0),
  (171, .iload_n 2, 172, 0, 0, 0), (172, .invokevirtual 207, 175, 63, 3, 0), (175, .aload_n 0, 176, 0, 0, 0), (176, .iload_n 2, 177, 0, 0, 0), (177, .invokevirtual 200, 180, 56, 2, 0), (180, .istore_n 3, 181, 0, 0, 0),
  (181, .aload_n 0, 182, 0, 0, 0), (182, .getfield 86, 185, 7, 25, 0), (185, .iload_n 1, 186, 0, 0, 0), (186, .iload_n 3, 187, 0, 0, 0), (187, .aload_n 0, 188, 0, 0, 0), (188, .getfield 86, 191, 7, 25, 0),
  (191, .iload_n 1, 192, 0, 0, 0), (192, .iaload, 193, 0, 0, 0), (193, .if_icmp .le 7, 196, 200, 0, 0), (196, .iload_n 3, 197, 0, 0, 0), (197, .goto 9, 200, 206, 0, 0), (200, .aload_n 0, 201, 0, 0, 0),
  (201, .getfield 86, 204, 7, 25, 0), (204, .iload_n 1, 205, 0, 0, 0), (205, .iaload, 206, 0, 0, 0), (206, .iastore, 207, 0, 0, 0), (207, .return_, 208, 0, 0, 0)]
/-- 62: RingBridgesModel.move(I)V -/
def rb_c62 : List (Nat × rb_I) := [(0, .aload_n 0, 1, 0, 0, 0), (1, .getfield 13, 4, 7, 1, 0), (4, .iload_n 1, 5, 0, 0, 0), (5, .iaload, 6, 0, 0, 0), (6, .ifCond .ne 4, 9, 10, 0, 0), (9, .return_, 10, 0, 0, 0),
  (10, .aload_n 0, 11, 0, 0, 0), (11, .getfield 74, 14, 7, 21, 0), (14, .iload_n 1, 15, 0, 0, 0), (15, .iaload, 16, 0, 0, 0), (16, .ifCond .ne 85, 19, 101, 0, 0), (19, .aload_n 0, 20, 0, 0, 0),
  (20, .getfield 80, 23, 7, 23, 0), (23, .iload_n 1, 24, 0, 0, 0), (24, .dup2, 25, 0, 0, 0), (25, .iaload, 26, 0, 0, 0), (26, .iconst 1, 27, 0, 0, 1), (27, .iadd, 28, 0, 0, 0),
  (28, .iastore, 29, 0, 0, 0), (29, .aload_n 0, 30, 0, 0, 0), (30, .getfield 80, 33, 7, 23, 0), (33, .iload_n 1, 34, 0, 0, 0), (34, .iaload, 35, 0, 0, 0), (35, .bipush 6, 37, 0, 0, 6),
  (37, .if_icmp .ge 4, 40, 41, 0, 0), (40, .return_, 41, 0, 0, 0), (41, .aload_n 0, 42, 0, 0, 0), (42, .getfield 80, 45, 7, 23, 0), (45, .iload_n 1, 46, 0, 0, 0), (46, .iconst 0, 47, 0, 0, 0),
  (47, .iastore, 48, 0, 0, 0), (48, .aload_n 0, 49, 0, 0, 0), (49, .iload_n 1, 50, 0, 0, 0), (50, .iconst 0, 51, 0, 0, 0), (51, .invokevirtual 210, 54, 48, 3, 0), (54, .istore_n 2, 55, 0, 0, 0),
  (55, .aload_n 0, 56, 0, 0, 0), (56, .getfield 101, 59, 7, 30, 0), (59, .iload_n 1, 60, 0, 0, 0), (60, .iaload, 61, 0, 0, 0), (61, .ifCond .eq 11, 64, 72, 0, 0), (64, .aload_n 0, 65, 0, 0, 0),
  (65, .iload_n 1, 66, 0, 0, 0), (66, .invokevirtual 192, 69, 57, 2, 0), (69, .goto 31, 72, 100, 0, 0), (72, .aload_n 0, 73, 0, 0, 0), (73, .getfield 74, 76, 7, 21, 0), (76, .iload_n 1, 77, 0, 0, 0),
  (77, .iconst 3, 78, 0, 0, 3), (78, .iastore, 79, 0, 0, 0), (79, .aload_n 0, 80, 0, 0, 0), (80, .getfield 98, 83, 7, 29, 0), (83, .iload_n 1, 84, 0, 0, 0), (84, .iload_n 2, 85, 0, 0, 0),
  (85, .invokestatic 177, 88, 44, 1, 0), (88, .iastore, 89, 0, 0, 0), (89, .aload_n 0, 90, 0, 0, 0), (90, .getfield 77, 93, 7, 22, 0), (93, .iload_n 1, 94, 0, 0, 0), (94, .aload_n 0, 95, 0, 0, 0),
  (95, .iload_n 2, 96, 0, 0, 0), (96, .invokevirtual 189, 99, 50, 2, 0), (99, .iastore, 100, 0, 0, 0), (100, .return_, 101, 0, 0, 0), (101, .aload_n 0, 102, 0, 0, 0), (102, .iload_n 1, 103, 0, 0, 0),
  (103, .aload_n 0, 104, 0, 0, 0), (104, .getfield 77, 107, 7, 22, 0), (107, .iload_n 1, 108, 0, 0, 0), (108, .iaload, 109, 0, 0, 0), (109, .invokevirtual 210, 112, 48, 3, 0), (112, .istore_n 2, 113, 0, 0, 0),
  (113, .iload_n 2, 114, 0, 0, 0), (114, .invokestatic 177, 117, 44, 1, 0), (117, .istore_n 3, 118, 0, 0, 0), (118, .aload_n 0, 119, 0, 0, 0), (119, .getfield 77, 122, 7, 22, 0), (122, .iload_n 1, 123, 0, 0, 0),
  (123, .aload_n 0, 124, 0, 0, 0), (124, .iload_n 2, 125, 0, 0, 0), (125, .invokevirtual 189, 128, 50, 2, 0), (128, .iastore, 129, 0, 0, 0), (129, .aload_n 0, 130, 0, 0, 0), (130, .getfield 74, 133, 7, 21, 0),
  (133, .iload_n 1, 134, 0, 0, 0), (134, .iaload, 135, 0, 0, 0), (135, .iconst 1, 136, 0, 0, 1), (136, .if_icmp .ne 12, 139, 148, 0, 0), (139, .aload_n 0, 140, 0, 0, 0), (140, .iload_n 1, 141, 0, 0, 0),
  (141, .iload_n 2, 142, 0, 0, 0), (142, .invokevirtual 213, 145, 60, 3, 0), (145, .goto 101, 148, 246, 0, 0), (148, .aload_n 0, 149, 0, 0, 0), (149, .getfield 74, 152, 7, 21, 0), (152, .iload_n 1, 153, 0, 0, 0),
  (153, .iaload, 154, 0, 0, 0), (154, .iconst 2, 155, 0, 0, 2), (155, .if_icmp .ne 12, 158, 167, 0, 0), (158, .aload_n 0, 159, 0, 0, 0), (159, .iload_n 1, 160, 0, 0, 0), (160, .iload_n 2, 161, 0, 0, 0),
  (161, .invokevirtual 216, 164, 61, 3, 0), (164, .goto 82, 167, 246, 0, 0), (167, .aload_n 0, 168, 0, 0, 0), (168, .getfield 74, 171, 7, 21, 0), (171, .iload_n 1, 172, 0, 0, 0), (172, .iaload, 173, 0, 0, 0),
  (173, .iconst 3, 174, 0, 0, 3), (174, .if_icmp .ne 48, 177, 222, 0, 0), (177, .iload_n 3, 178, 0, 0, 0), (178, .aload_n 0, 179, 0, 0, 0), (179, .getfield 98, 182, 7, 29, 0), (182, .iload_n 1, 183, 0, 0, 0),
  (183, .iaload, 184, 0, 0, 0), (184, .if_icmp .ne 18, 187, 202, 0, 0), (187, .aload_n 0, 188, 0, 0, 0), (188, .getfield 101, 191, 7, 30, 0), (191, .iload_n 1, 192, 0, 0, 0), (192, .iload_n 3, 193, 0, 0, 0),
  (193, .iastore, 194, 0, 0, 0), (194, .aload_n 0, 195, 0, 0, 0), (195, .iload_n 1, 196, 0, 0, 0), (196, .invokevirtual 192, 199, 57, 2, 0), (199, .goto 47, 202, 246, 0, 0), (202, .iload_n 3, 203, 0, 0, 0),
  (203, .aload_n 0, 204, 0, 0, 0), (204, .getfield 98, 207, 7, 29, 0), (207, .iload_n 1, 208, 0, 0, 0), (208, .iaload, 209, 0, 0, 0), (209, .if_icmp .le 37, 212, 246, 0, 0), (212, .aload_n 0, 213, 0, 0, 0),
  (213, .getfield 98, 216, 7, 29, 0), (216, .iload_n 1, 217, 0, 0, 0), (217, .iload_n 3, 218, 0, 0, 0), (218, .iastore, 219, 0, 0, 0), (219, .goto 27, 222, 246, 0, 0), (222, .aload_n 0, 223, 0, 0, 0),
  (223, .getfield 26, 226, 7, 5, 0), (226, .iload_n 2, 227, 0, 0, 0), (227, .iconst 0, 228, 0, 0, 0), (228, .iastore, 229, 0, 0, 0), (229, .iload_n 3, 230, 0, 0, 0), (230, .aload_n 0, 231, 0, 0, 0),
  (231, .getfield 98, 234, 7, 29, 0), (234, .iload_n 1, 235, 0, 0, 0), (235, .iaload, 236, 0, 0, 0), (236, .if_icmp .ne 10, 239, 246, 0, 0), (239, .aload_n 0, 240, 0, 0, 0), (240, .iload_n 1, 241, 0, 0, 0),
  (241, .iconst 0, 242, 0, 0, 0), (242, .iconst 0, 243, 0, 0, 0), (243, .invokevirtual 203, 246, 58, 4, 0), (246, .return_, 247, 0, 0, 0)]
/-- 63: RingBridgesModel.receive(II)V -/
def rb_c63 : List (Nat × rb_I) := [(0, .bipush 60, 2, 0, 0, 60), (2, .iload_n 1, 3, 0, 0, 0), (3, .iadd, 4, 0, 0, 0), (4, .istore_n 3, 5, 0, 0, 0), (5, .iload_n 2, 6, 0, 0, 0), (6, .invokestatic 177, 9, 44, 1, 0),
  (9, .istore 4, 11, 0, 0, 0), (11, .iload_n 2, 12, 0, 0, 0), (12, .bipush 9, 14, 0, 0, 9), (14, .if_icmp .lt 184, 17, 198, 0, 0), (17, .iload 4, 19, 0, 0, 0), (19, .bipush 10, 21, 0, 0, 10),
  (21, .isub, 22, 0, 0, 0), (22, .istore 5, 24, 0, 0, 0), (24, .iload_n 2, 25, 0, 0, 0), (25, .invokestatic 219, 28, 52, 1, 0), (28, .istore 6, 30, 0, 0, 0), (30, .aload_n 0, 31, 0, 0, 0),
  (31, .getfield 23, 34, 7, 4, 0), (34, .iload 6, 36, 0, 0, 0), (36, .iaload, 37, 0, 0, 0), (37, .iconst 4, 38, 0, 0, 4), (38, .if_icmp .ne 4, 41, 42, 0, 0), (41, .return_, 42, 0, 0, 0),
  (42, .aload_n 0, 43, 0, 0, 0), (43, .getfield 35, 46, 7, 8, 0), (46, .iload_n 3, 47, 0, 0, 0), (47, .iaload, 48, 0, 0, 0), (48, .ifCond .ne 96, 51, 144, 0, 0), (51, .aload_n 0, 52, 0, 0, 0),
  (52, .getfield 56, 55, 7, 15, 0), (55, .iload_n 3, 56, 0, 0, 0), (56, .iaload, 57, 0, 0, 0), (57, .ifCond .ge 23, 60, 80, 0, 0), (60, .aload_n 0, 61, 0, 0, 0), (61, .getfield 59, 64, 7, 16, 0),
  (64, .iload_n 3, 65, 0, 0, 0), (65, .iaload, 66, 0, 0, 0), (66, .aload_n 0, 67, 0, 0, 0), (67, .getfield 20, 70, 7, 3, 0), (70, .iload 6, 72, 0, 0, 0), (72, .iaload, 73, 0, 0, 0),
  (73, .ishr, 74, 0, 0, 0), (74, .iconst 1, 75, 0, 0, 1), (75, .iand, 76, 0, 0, 0), (76, .iconst 1, 77, 0, 0, 1), (77, .if_icmp .ne 4, 80, 81, 0, 0), (80, .return_, 81, 0, 0, 0),
  (81, .aload_n 0, 82, 0, 0, 0), (82, .iload_n 3, 83, 0, 0, 0), (83, .bipush 63, 85, 0, 0, 63), (85, .invokevirtual 181, 88, 53, 3, 0), (88, .aload_n 0, 89, 0, 0, 0), (89, .getfield 53, 92, 7, 14, 0),
  (92, .iload_n 3, 93, 0, 0, 0), (93, .iaload, 94, 0, 0, 0), (94, .ifCond .ge 15, 97, 109, 0, 0), (97, .aload_n 0, 98, 0, 0, 0), (98, .getfield 53, 101, 7, 14, 0), (101, .bipush 63, 103, 0, 0, 63),
  (103, .iload 5, 105, 0, 0, 0), (105, .iastore, 106, 0, 0, 0), (106, .goto 12, 109, 118, 0, 0), (109, .aload_n 0, 110, 0, 0, 0), (110, .getfield 56, 113, 7, 15, 0), (113, .bipush 63, 115, 0, 0, 63),
  (115, .iload 5, 117, 0, 0, 0), (117, .iastore, 118, 0, 0, 0), (118, .aload_n 0, 119, 0, 0, 0), (119, .getfield 59, 122, 7, 16, 0), (122, .bipush 63, 124, 0, 0, 63), (124, .aload_n 0, 125, 0, 0, 0),
  (125, .getfield 59, 128, 7, 16, 0), (128, .iload_n 3, 129, 0, 0, 0), (129, .iaload, 130, 0, 0, 0), (130, .iconst 1, 131, 0, 0, 1), (131, .aload_n 0, 132, 0, 0, 0), (132, .getfield 20, 135, 7, 3, 0),
  (135, .iload 6, 137, 0, 0, 0), (137, .iaload, 138, 0, 0, 0), (138, .ishl, 139, 0, 0, 0), (139, .ior, 140, 0, 0, 0), (140, .iastore, 141, 0, 0, 0), (141, .goto 43, 144, 184, 0, 0),
  (144, .aload_n 0, 145, 0, 0, 0), (145, .getfield 47, 148, 7, 12, 0), (148, .iload_n 3, 149, 0, 0, 0), (149, .iaload, 150, 0, 0, 0), (150, .iload 5, 152, 0, 0, 0), (152, .if_icmp .eq 4, 155, 156, 0, 0),
  (155, .return_, 156, 0, 0, 0), (156, .aload_n 0, 157, 0, 0, 0), (157, .iload_n 3, 158, 0, 0, 0), (158, .bipush 63, 160, 0, 0, 63), (160, .invokevirtual 181, 163, 53, 3, 0), (163, .aload_n 0, 164, 0, 0, 0),
  (164, .getfield 47, 167, 7, 12, 0), (167, .bipush 63, 169, 0, 0, 63), (169, .aload_n 0, 170, 0, 0, 0), (170, .getfield 50, 173, 7, 13, 0), (173, .iload_n 3, 174, 0, 0, 0), (174, .iaload, 175, 0, 0, 0),
  (175, .iastore, 176, 0, 0, 0), (176, .aload_n 0, 177, 0, 0, 0), (177, .getfield 50, 180, 7, 13, 0), (180, .bipush 63, 182, 0, 0, 63), (182, .iconst (-1), 183, 0, 0, (-1)), (183, .iastore, 184, 0, 0, 0),
  (184, .aload_n 0, 185, 0, 0, 0), (185, .iload 6, 187, 0, 0, 0), (187, .invokevirtual 222, 190, 54, 2, 0), (190, .aload_n 0, 191, 0, 0, 0), (191, .getfield 95, 194, 7, 28, 0), (194, .iload_n 1, 195, 0, 0, 0),
  (195, .iconst 1, 196, 0, 0, 1), (196, .bastore, 197, 0, 0, 0), (197, .return_, 198, 0, 0, 0), (198, .aload_n 0, 199, 0, 0, 0), (199, .getfield 44, 202, 7, 11, 0), (202, .iload_n 3, 203, 0, 0, 0),
  (203, .iaload, 204, 0, 0, 0), (204, .iload 4, 206, 0, 0, 0), (206, .if_icmp .ne 21, 209, 227, 0, 0), (209, .aload_n 0, 210, 0, 0, 0), (210, .getfield 35, 213, 7, 8, 0), (213, .iload_n 3, 214, 0, 0, 0),
  (214, .iaload, 215, 0, 0, 0), (215, .ifCond .eq 13, 218, 228, 0, 0), (218, .aload_n 0, 219, 0, 0, 0), (219, .getfield 47, 222, 7, 12, 0), (222, .iload_n 3, 223, 0, 0, 0), (223, .iaload, 224, 0, 0, 0),
  (224, .ifCond .lt 4, 227, 228, 0, 0), (227, .return_, 228, 0, 0, 0), (228, .aload_n 0, 229, 0, 0, 0), (229, .getfield 95, 232, 7, 28, 0), (232, .iload_n 1, 233, 0, 0, 0), (233, .iconst 1, 234, 0, 0, 1),
  (234, .bastore, 235, 0, 0, 0), (235, .aload_n 0, 236, 0, 0, 0), (236, .getfield 35, 239, 7, 8, 0), (239, .iload_n 3, 240, 0, 0, 0), (240, .iaload, 241, 0, 0, 0), (241, .ifCond .ne 102, 244, 343, 0, 0),
  (244, .aload_n 0, 245, 0, 0, 0), (245, .getfield 56, 248, 7, 15, 0), (248, .iload_n 3, 249, 0, 0, 0), (249, .iaload, 250, 0, 0, 0), (250, .ifCond .lt 12, 253, 262, 0, 0), (253, .aload_n 0, 254, 0, 0, 0),
  (254, .getfield 56, 257, 7, 15, 0), (257, .iload_n 3, 258, 0, 0, 0), (258, .iaload, 259, 0, 0, 0), (259, .goto 9, 262, 268, 0, 0), (262, .aload_n 0, 263, 0, 0, 0), (263, .getfield 53, 266, 7, 14, 0),
  (266, .iload_n 3, 267, 0, 0, 0), (267, .iaload, 268, 0, 0, 0), (268, .istore 5, 270, 0, 0, 0), (270, .aload_n 0, 271, 0, 0, 0), (271, .getfield 56, 274, 7, 15, 0), (274, .iload_n 3, 275, 0, 0, 0),
  (275, .iaload, 276, 0, 0, 0), (276, .ifCond .lt 12, 279, 288, 0, 0), (279, .aload_n 0, 280, 0, 0, 0), (280, .getfield 53, 283, 7, 14, 0), (283, .iload_n 3, 284, 0, 0, 0), (284, .iaload, 285, 0, 0, 0),
  (285, .goto 4, 288, 289, 0, 0), (288, .iconst (-1), 289, 0, 0, (-1)), (289, .istore 6, 291, 0, 0, 0), (291, .aload_n 0, 292, 0, 0, 0), (292, .iconst 1, 293, 0, 0, 1), (293, .iconst 2, 294, 0, 0, 2),
  (294, .iload 4, 296, 0, 0, 0), (296, .aload_n 0, 297, 0, 0, 0), (297, .getfield 41, 300, 7, 10, 0), (300, .iload_n 3, 301, 0, 0, 0), (301, .iaload, 302, 0, 0, 0), (302, .iload 5, 304, 0, 0, 0),
  (304, .iload 6, 306, 0, 0, 0), (306, .invokevirtual 225, 309, 55, 7, 0), (309, .aload_n 0, 310, 0, 0, 0), (310, .getfield 53, 313, 7, 14, 0), (313, .bipush 63, 315, 0, 0, 63), (315, .aload_n 0, 316, 0, 0, 0),
  (316, .getfield 53, 319, 7, 14, 0), (319, .iload_n 3, 320, 0, 0, 0), (320, .iaload, 321, 0, 0, 0), (321, .iastore, 322, 0, 0, 0), (322, .aload_n 0, 323, 0, 0, 0), (323, .getfield 56, 326, 7, 15, 0),
  (326, .bipush 63, 328, 0, 0, 63), (328, .aload_n 0, 329, 0, 0, 0), (329, .getfield 56, 332, 7, 15, 0), (332, .iload_n 3, 333, 0, 0, 0), (333, .iaload, 334, 0, 0, 0), (334, .iastore, 335, 0, 0, 0),
  (335, .aload_n 0, 336, 0, 0, 0), (336, .iload_n 2, 337, 0, 0, 0), (337, .invokevirtual 222, 340, 54, 2, 0), (340, .goto 170, 343, 510, 0, 0), (343, .aload_n 0, 344, 0, 0, 0), (344, .getfield 35, 347, 7, 8, 0),
  (347, .iload_n 3, 348, 0, 0, 0), (348, .iaload, 349, 0, 0, 0), (349, .iconst 1, 350, 0, 0, 1), (350, .if_icmp .ne 68, 353, 418, 0, 0), (353, .bipush 9, 355, 0, 0, 9), (355, .iload 4, 357, 0, 0, 0),
  (357, .iconst 1, 358, 0, 0, 1), (358, .isub, 359, 0, 0, 0), (359, .imul, 360, 0, 0, 0), (360, .aload_n 0, 361, 0, 0, 0), (361, .getfield 41, 364, 7, 10, 0), (364, .iload_n 3, 365, 0, 0, 0),
  (365, .iaload, 366, 0, 0, 0), (366, .iadd, 367, 0, 0, 0), (367, .iconst 1, 368, 0, 0, 1), (368, .isub, 369, 0, 0, 0), (369, .istore 5, 371, 0, 0, 0), (371, .aload_n 0, 372, 0, 0, 0),
  (372, .getfield 107, 375, 7, 32, 0), (375, .iload 5, 377, 0, 0, 0), (377, .baload, 378, 0, 0, 0), (378, .ifCond .ne 37, 381, 415, 0, 0), (381, .aload_n 0, 382, 0, 0, 0), (382, .getfield 107, 385, 7, 32, 0),
  (385, .iload 5, 387, 0, 0, 0), (387, .iconst 1, 388, 0, 0, 1), (388, .bastore, 389, 0, 0, 0), (389, .aload_n 0, 390, 0, 0, 0), (390, .getfield 110, 393, 7, 33, 0), (393, .iload 5, 395, 0, 0, 0),
  (395, .aload_n 0, 396, 0, 0, 0), (396, .getfield 53, 399, 7, 14, 0), (399, .iload_n 3, 400, 0, 0, 0), (400, .iaload, 401, 0, 0, 0), (401, .iastore, 402, 0, 0, 0), (402, .aload_n 0, 403, 0, 0, 0),
  (403, .getfield 113, 406, 7, 34, 0), (406, .iload 5, 408, 0, 0, 0), (408, .aload_n 0, 409, 0, 0, 0), (409, .getfield 56, 412, 7, 15, 0), (412, .iload_n 3, 413, 0, 0, 0), (413, .iaload, 414, 0, 0, 0),
  (414, .iastore, 415, 0, 0, 0), (415, .goto 95, 418, 510, 0, 0), (418, .aload_n 0, 419, 0, 0, 0), (419, .getfield 116, 422, 7, 35, 0), (422, .aload_n 0, 423, 0, 0, 0), (423, .getfield 62, 426, 7, 17, 0),
  (426, .iload_n 3, 427, 0, 0, 0), (427, .iaload, 428, 0, 0, 0), (428, .iaload, 429, 0, 0, 0), (429, .iconst 1, 430, 0, 0, 1), (430, .if_icmp .ne 80, 433, 510, 0, 0), (433, .aload_n 0, 434, 0, 0, 0),
  (434, .getfield 134, 437, 7, 41, 0), (437, .aload_n 0, 438, 0, 0, 0), (438, .getfield 62, 441, 7, 17, 0), (441, .iload_n 3, 442, 0, 0, 0), (442, .iaload, 443, 0, 0, 0), (443, .iaload, 444, 0, 0, 0),
  (444, .aload_n 0, 445, 0, 0, 0), (445, .getfield 65, 448, 7, 18, 0), (448, .iload_n 3, 449, 0, 0, 0), (449, .iaload, 450, 0, 0, 0), (450, .if_icmp .ne 60, 453, 510, 0, 0), (453, .aload_n 0, 454, 0, 0, 0),
  (454, .getfield 35, 457, 7, 8, 0), (457, .iload_n 3, 458, 0, 0, 0), (458, .iaload, 459, 0, 0, 0), (459, .iconst 2, 460, 0, 0, 2), (460, .if_icmp .ne 28, 463, 488, 0, 0), (463, .aload_n 0, 464, 0, 0, 0),
  (464, .aload_n 0, 465, 0, 0, 0), (465, .getfield 62, 468, 7, 17, 0), (468, .iload_n 3, 469, 0, 0, 0), (469, .iaload, 470, 0, 0, 0), (470, .aload_n 0, 471, 0, 0, 0), (471, .getfield 68, 474, 7, 19, 0),
  (474, .iload_n 3, 475, 0, 0, 0), (475, .iaload, 476, 0, 0, 0), (476, .aload_n 0, 477, 0, 0, 0), (477, .getfield 71, 480, 7, 20, 0), (480, .iload_n 3, 481, 0, 0, 0), (481, .iaload, 482, 0, 0, 0),
  (482, .invokevirtual 229, 485, 65, 4, 0), (485, .goto 25, 488, 510, 0, 0), (488, .aload_n 0, 489, 0, 0, 0), (489, .aload_n 0, 490, 0, 0, 0), (490, .getfield 62, 493, 7, 17, 0), (493, .iload_n 3, 494, 0, 0, 0),
  (494, .iaload, 495, 0, 0, 0), (495, .aload_n 0, 496, 0, 0, 0), (496, .getfield 35, 499, 7, 8, 0), (499, .iload_n 3, 500, 0, 0, 0), (500, .iaload, 501, 0, 0, 0), (501, .aload_n 0, 502, 0, 0, 0),
  (502, .getfield 68, 505, 7, 19, 0), (505, .iload_n 3, 506, 0, 0, 0), (506, .iaload, 507, 0, 0, 0), (507, .invokevirtual 232, 510, 66, 4, 0), (510, .return_, 511, 0, 0, 0)]
/-- 64: RingBridgesModel.answer(II)V -/
def rb_c64 : List (Nat × rb_I) := [(0, .aload_n 0, 1, 0, 0, 0), (1, .getfield 131, 4, 7, 40, 0), (4, .iload_n 1, 5, 0, 0, 0), (5, .iaload, 6, 0, 0, 0), (6, .ifCond .lt 12, 9, 18, 0, 0), (9, .aload_n 0, 10, 0, 0, 0),
  (10, .getfield 131, 13, 7, 40, 0), (13, .iload_n 1, 14, 0, 0, 0), (14, .iaload, 15, 0, 0, 0), (15, .goto 9, 18, 24, 0, 0), (18, .aload_n 0, 19, 0, 0, 0), (19, .getfield 128, 22, 7, 39, 0),
  (22, .iload_n 1, 23, 0, 0, 0), (23, .iaload, 24, 0, 0, 0), (24, .istore_n 3, 25, 0, 0, 0), (25, .aload_n 0, 26, 0, 0, 0), (26, .getfield 131, 29, 7, 40, 0), (29, .iload_n 1, 30, 0, 0, 0),
  (30, .iaload, 31, 0, 0, 0), (31, .ifCond .lt 12, 34, 43, 0, 0), (34, .aload_n 0, 35, 0, 0, 0), (35, .getfield 128, 38, 7, 39, 0), (38, .iload_n 1, 39, 0, 0, 0), (39, .iaload, 40, 0, 0, 0),
  (40, .goto 4, 43, 44, 0, 0), (43, .iconst (-1), 44, 0, 0, (-1)), (44, .istore 4, 46, 0, 0, 0), (46, .aload_n 0, 47, 0, 0, 0), (47, .iload_n 2, 48, 0, 0, 0), (48, .iconst 2, 49, 0, 0, 2),
  (49, .aload_n 0, 50, 0, 0, 0), (50, .getfield 122, 53, 7, 37, 0), (53, .iload_n 1, 54, 0, 0, 0), (54, .iaload, 55, 0, 0, 0), (55, .aload_n 0, 56, 0, 0, 0), (56, .getfield 119, 59, 7, 36, 0),
  (59, .iload_n 1, 60, 0, 0, 0), (60, .iaload, 61, 0, 0, 0), (61, .iload_n 3, 62, 0, 0, 0), (62, .iload 4, 64, 0, 0, 0), (64, .invokevirtual 225, 67, 55, 7, 0), (67, .aload_n 0, 68, 0, 0, 0),
  (68, .getfield 62, 71, 7, 17, 0), (71, .bipush 63, 73, 0, 0, 63), (73, .iload_n 1, 74, 0, 0, 0), (74, .iastore, 75, 0, 0, 0), (75, .aload_n 0, 76, 0, 0, 0), (76, .getfield 65, 79, 7, 18, 0),
  (79, .bipush 63, 81, 0, 0, 63), (81, .aload_n 0, 82, 0, 0, 0), (82, .getfield 134, 85, 7, 41, 0), (85, .iload_n 1, 86, 0, 0, 0), (86, .iaload, 87, 0, 0, 0), (87, .iastore, 88, 0, 0, 0),
  (88, .aload_n 0, 89, 0, 0, 0), (89, .getfield 68, 92, 7, 19, 0), (92, .bipush 63, 94, 0, 0, 63), (94, .aload_n 0, 95, 0, 0, 0), (95, .getfield 158, 98, 7, 49, 0), (98, .iload_n 1, 99, 0, 0, 0),
  (99, .iaload, 100, 0, 0, 0), (100, .bipush 8, 102, 0, 0, 8), (102, .irem, 103, 0, 0, 0), (103, .iastore, 104, 0, 0, 0), (104, .aload_n 0, 105, 0, 0, 0), (105, .aload_n 0, 106, 0, 0, 0),
  (106, .getfield 122, 109, 7, 37, 0), (109, .iload_n 1, 110, 0, 0, 0), (110, .iaload, 111, 0, 0, 0), (111, .iconst 1, 112, 0, 0, 1), (112, .isub, 113, 0, 0, 0), (113, .invokevirtual 222, 116, 54, 2, 0),
  (116, .return_, 117, 0, 0, 0)]
/-- 65: RingBridgesModel.accept(III)V -/
def rb_c65 : List (Nat × rb_I) := [(0, .aload_n 0, 1, 0, 0, 0), (1, .getfield 158, 4, 7, 49, 0), (4, .iload_n 1, 5, 0, 0, 0), (5, .iaload, 6, 0, 0, 0), (6, .bipush 8, 8, 0, 0, 8), (8, .irem, 9, 0, 0, 0),
  (9, .istore 4, 11, 0, 0, 0), (11, .iload 4, 13, 0, 0, 0), (13, .iload_n 2, 14, 0, 0, 0), (14, .isub, 15, 0, 0, 0), (15, .bipush 8, 17, 0, 0, 8), (17, .iadd, 18, 0, 0, 0),
  (18, .bipush 8, 20, 0, 0, 8), (20, .irem, 21, 0, 0, 0), (21, .istore 5, 23, 0, 0, 0), (23, .iload 5, 25, 0, 0, 0), (25, .ifCond .ne 65, 28, 90, 0, 0), (28, .aload_n 0, 29, 0, 0, 0),
  (29, .getfield 161, 32, 7, 50, 0), (32, .iload_n 1, 33, 0, 0, 0), (33, .iaload, 34, 0, 0, 0), (34, .iconst 4, 35, 0, 0, 4), (35, .if_icmp .ge 55, 38, 90, 0, 0), (38, .aload_n 0, 39, 0, 0, 0),
  (39, .getfield 164, 42, 7, 51, 0), (42, .iconst 4, 43, 0, 0, 4), (43, .iload_n 1, 44, 0, 0, 0), (44, .imul, 45, 0, 0, 0), (45, .aload_n 0, 46, 0, 0, 0), (46, .getfield 161, 49, 7, 50, 0),
  (49, .iload_n 1, 50, 0, 0, 0), (50, .iaload, 51, 0, 0, 0), (51, .iadd, 52, 0, 0, 0), (52, .iload_n 3, 53, 0, 0, 0), (53, .iastore, 54, 0, 0, 0), (54, .aload_n 0, 55, 0, 0, 0),
  (55, .getfield 161, 58, 7, 50, 0), (58, .iload_n 1, 59, 0, 0, 0), (59, .dup2, 60, 0, 0, 0), (60, .iaload, 61, 0, 0, 0), (61, .iconst 1, 62, 0, 0, 1), (62, .iadd, 63, 0, 0, 0),
  (63, .iastore, 64, 0, 0, 0), (64, .aload_n 0, 65, 0, 0, 0), (65, .getfield 158, 68, 7, 49, 0), (68, .iload_n 1, 69, 0, 0, 0), (69, .dup2, 70, 0, 0, 0), (70, .iaload, 71, 0, 0, 0),
  (71, .iconst 1, 72, 0, 0, 1), (72, .iadd, 73, 0, 0, 0), (73, .iastore, 74, 0, 0, 0), (74, .aload_n 0, 75, 0, 0, 0), (75, .getfield 167, 78, 7, 52, 0), (78, .iload_n 1, 79, 0, 0, 0),
  (79, .iconst 0, 80, 0, 0, 0), (80, .bastore, 81, 0, 0, 0), (81, .aload_n 0, 82, 0, 0, 0), (82, .iload_n 1, 83, 0, 0, 0), (83, .iconst 3, 84, 0, 0, 3), (84, .invokevirtual 235, 87, 64, 3, 0),
  (87, .goto 61, 90, 148, 0, 0), (90, .iload 5, 92, 0, 0, 0), (92, .ifCond .ne 19, 95, 111, 0, 0), (95, .aload_n 0, 96, 0, 0, 0), (96, .getfield 170, 99, 7, 53, 0), (99, .iload_n 1, 100, 0, 0, 0),
  (100, .iconst 1, 101, 0, 0, 1), (101, .bastore, 102, 0, 0, 0), (102, .aload_n 0, 103, 0, 0, 0), (103, .iload_n 1, 104, 0, 0, 0), (104, .iconst 5, 105, 0, 0, 5), (105, .invokevirtual 235, 108, 64, 3, 0),
  (108, .goto 40, 111, 148, 0, 0), (111, .iload 5, 113, 0, 0, 0), (113, .iconst 4, 114, 0, 0, 4), (114, .if_icmp .gt 12, 117, 126, 0, 0), (117, .aload_n 0, 118, 0, 0, 0), (118, .iload_n 1, 119, 0, 0, 0),
  (119, .iconst 3, 120, 0, 0, 3), (120, .invokevirtual 235, 123, 64, 3, 0), (123, .goto 25, 126, 148, 0, 0), (126, .aload_n 0, 127, 0, 0, 0), (127, .getfield 167, 130, 7, 52, 0), (130, .iload_n 1, 131, 0, 0, 0),
  (131, .baload, 132, 0, 0, 0), (132, .ifCond .ne 16, 135, 148, 0, 0), (135, .aload_n 0, 136, 0, 0, 0), (136, .getfield 167, 139, 7, 52, 0), (139, .iload_n 1, 140, 0, 0, 0), (140, .iconst 1, 141, 0, 0, 1),
  (141, .bastore, 142, 0, 0, 0), (142, .aload_n 0, 143, 0, 0, 0), (143, .iload_n 1, 144, 0, 0, 0), (144, .iconst 4, 145, 0, 0, 4), (145, .invokevirtual 235, 148, 64, 3, 0), (148, .return_, 149, 0, 0, 0)]
/-- 66: RingBridgesModel.heard(III)V -/
def rb_c66 : List (Nat × rb_I) := [(0, .iload_n 3, 1, 0, 0, 0), (1, .aload_n 0, 2, 0, 0, 0), (2, .getfield 137, 5, 7, 42, 0), (5, .iload_n 1, 6, 0, 0, 0), (6, .iaload, 7, 0, 0, 0), (7, .bipush 8, 9, 0, 0, 8),
  (9, .irem, 10, 0, 0, 0), (10, .isub, 11, 0, 0, 0), (11, .bipush 8, 13, 0, 0, 8), (13, .iadd, 14, 0, 0, 0), (14, .bipush 8, 16, 0, 0, 8), (16, .irem, 17, 0, 0, 0),
  (17, .istore 4, 19, 0, 0, 0), (19, .iload 4, 21, 0, 0, 0), (21, .aload_n 0, 22, 0, 0, 0), (22, .getfield 140, 25, 7, 43, 0), (25, .iload_n 1, 26, 0, 0, 0), (26, .iaload, 27, 0, 0, 0),
  (27, .if_icmp .le 4, 30, 31, 0, 0), (30, .return_, 31, 0, 0, 0), (31, .aload_n 0, 32, 0, 0, 0), (32, .getfield 143, 35, 7, 44, 0), (35, .iload_n 1, 36, 0, 0, 0), (36, .dup2, 37, 0, 0, 0),
  (37, .iaload, 38, 0, 0, 0), (38, .iload 4, 40, 0, 0, 0), (40, .isub, 41, 0, 0, 0), (41, .iastore, 42, 0, 0, 0), (42, .iconst 0, 43, 0, 0, 0), (43, .istore 5, 45, 0, 0, 0),
  (45, .iload 5, 47, 0, 0, 0), (47, .aload_n 0, 48, 0, 0, 0), (48, .getfield 143, 51, 7, 44, 0), (51, .iload_n 1, 52, 0, 0, 0), (52, .iaload, 53, 0, 0, 0), (53, .if_icmp .ge 36, 56, 89, 0, 0),
  (56, .aload_n 0, 57, 0, 0, 0), (57, .getfield 146, 60, 7, 45, 0), (60, .bipush 8, 62, 0, 0, 8), (62, .iload_n 1, 63, 0, 0, 0), (63, .imul, 64, 0, 0, 0), (64, .iload 5, 66, 0, 0, 0),
  (66, .iadd, 67, 0, 0, 0), (67, .aload_n 0, 68, 0, 0, 0), (68, .getfield 146, 71, 7, 45, 0), (71, .bipush 8, 73, 0, 0, 8), (73, .iload_n 1, 74, 0, 0, 0), (74, .imul, 75, 0, 0, 0),
  (75, .iload 5, 77, 0, 0, 0), (77, .iadd, 78, 0, 0, 0), (78, .iload 4, 80, 0, 0, 0), (80, .iadd, 81, 0, 0, 0), (81, .iaload, 82, 0, 0, 0), (82, .iastore, 83, 0, 0, 0),
  (83, .iinc 5 1, 86, 0, 0, 1), (86, .goto (-41), 89, 45, 0, 0), (89, .aload_n 0, 90, 0, 0, 0), (90, .getfield 137, 93, 7, 42, 0), (93, .iload_n 1, 94, 0, 0, 0), (94, .dup2, 95, 0, 0, 0),
  (95, .iaload, 96, 0, 0, 0), (96, .iload 4, 98, 0, 0, 0), (98, .iadd, 99, 0, 0, 0), (99, .iastore, 100, 0, 0, 0), (100, .aload_n 0, 101, 0, 0, 0), (101, .getfield 140, 104, 7, 43, 0),
  (104, .iload_n 1, 105, 0, 0, 0), (105, .dup2, 106, 0, 0, 0), (106, .iaload, 107, 0, 0, 0), (107, .iload 4, 109, 0, 0, 0), (109, .isub, 110, 0, 0, 0), (110, .iastore, 111, 0, 0, 0),
  (111, .iload 4, 113, 0, 0, 0), (113, .ifCond .le 17, 116, 130, 0, 0), (116, .aload_n 0, 117, 0, 0, 0), (117, .getfield 152, 120, 7, 47, 0), (120, .iload_n 1, 121, 0, 0, 0), (121, .iconst 0, 122, 0, 0, 0),
  (122, .iastore, 123, 0, 0, 0), (123, .aload_n 0, 124, 0, 0, 0), (124, .getfield 155, 127, 7, 48, 0), (127, .iload_n 1, 128, 0, 0, 0), (128, .iconst 0, 129, 0, 0, 0), (129, .iastore, 130, 0, 0, 0),
  (130, .aload_n 0, 131, 0, 0, 0), (131, .getfield 149, 134, 7, 46, 0), (134, .iload_n 1, 135, 0, 0, 0), (135, .iload_n 2, 136, 0, 0, 0), (136, .iconst 5, 137, 0, 0, 5), (137, .if_icmp .ne 7, 140, 144, 0, 0),
  (140, .iconst 1, 141, 0, 0, 1), (141, .goto 4, 144, 145, 0, 0), (144, .iconst 0, 145, 0, 0, 0), (145, .bastore, 146, 0, 0, 0), (146, .iload_n 2, 147, 0, 0, 0), (147, .iconst 4, 148, 0, 0, 4),
  (148, .if_icmp .ne 10, 151, 158, 0, 0), (151, .aload_n 0, 152, 0, 0, 0), (152, .getfield 140, 155, 7, 43, 0), (155, .iload_n 1, 156, 0, 0, 0), (156, .iconst 0, 157, 0, 0, 0), (157, .iastore, 158, 0, 0, 0),
  (158, .iload_n 2, 159, 0, 0, 0), (159, .iconst 5, 160, 0, 0, 5), (160, .if_icmp .ne 10, 163, 170, 0, 0), (163, .aload_n 0, 164, 0, 0, 0), (164, .getfield 152, 167, 7, 47, 0), (167, .iload_n 1, 168, 0, 0, 0),
  (168, .iconst 0, 169, 0, 0, 0), (169, .iastore, 170, 0, 0, 0), (170, .return_, 171, 0, 0, 0)]
/-- 67: RingBridgesModel.connect(I)V -/
def rb_c67 : List (Nat × rb_I) := [(0, .aload_n 0, 1, 0, 0, 0), (1, .getfield 152, 4, 7, 47, 0), (4, .iload_n 1, 5, 0, 0, 0), (5, .aload_n 0, 6, 0, 0, 0), (6, .getfield 140, 9, 7, 43, 0), (9, .iload_n 1, 10, 0, 0, 0),
  (10, .iaload, 11, 0, 0, 0), (11, .ifCond .gt 12, 14, 23, 0, 0), (14, .aload_n 0, 15, 0, 0, 0), (15, .getfield 149, 18, 7, 46, 0), (18, .iload_n 1, 19, 0, 0, 0), (19, .baload, 20, 0, 0, 0),
  (20, .ifCond .eq 14, 23, 34, 0, 0), (23, .aload_n 0, 24, 0, 0, 0), (24, .getfield 152, 27, 7, 47, 0), (27, .iload_n 1, 28, 0, 0, 0), (28, .iaload, 29, 0, 0, 0), (29, .iconst 1, 30, 0, 0, 1),
  (30, .iadd, 31, 0, 0, 0), (31, .goto 4, 34, 35, 0, 0), (34, .iconst 0, 35, 0, 0, 0), (35, .iastore, 36, 0, 0, 0), (36, .aload_n 0, 37, 0, 0, 0), (37, .getfield 152, 40, 7, 47, 0),
  (40, .iload_n 1, 41, 0, 0, 0), (41, .iaload, 42, 0, 0, 0), (42, .bipush 60, 44, 0, 0, 60), (44, .if_icmp .ne 51, 47, 95, 0, 0), (47, .aload_n 0, 48, 0, 0, 0), (48, .getfield 155, 51, 7, 48, 0),
  (51, .iload_n 1, 52, 0, 0, 0), (52, .dup2, 53, 0, 0, 0), (53, .iaload, 54, 0, 0, 0), (54, .iconst 1, 55, 0, 0, 1), (55, .iadd, 56, 0, 0, 0), (56, .iastore, 57, 0, 0, 0),
  (57, .aload_n 0, 58, 0, 0, 0), (58, .getfield 152, 61, 7, 47, 0), (61, .iload_n 1, 62, 0, 0, 0), (62, .iconst 0, 63, 0, 0, 0), (63, .iastore, 64, 0, 0, 0), (64, .aload_n 0, 65, 0, 0, 0),
  (65, .getfield 140, 68, 7, 43, 0), (68, .iload_n 1, 69, 0, 0, 0), (69, .iconst 0, 70, 0, 0, 0), (70, .iastore, 71, 0, 0, 0), (71, .aload_n 0, 72, 0, 0, 0), (72, .getfield 149, 75, 7, 46, 0),
  (75, .iload_n 1, 76, 0, 0, 0), (76, .iconst 0, 77, 0, 0, 0), (77, .bastore, 78, 0, 0, 0), (78, .aload_n 0, 79, 0, 0, 0), (79, .getfield 155, 82, 7, 48, 0), (82, .iload_n 1, 83, 0, 0, 0),
  (83, .iaload, 84, 0, 0, 0), (84, .iconst 4, 85, 0, 0, 4), (85, .if_icmp .ne 10, 88, 95, 0, 0), (88, .aload_n 0, 89, 0, 0, 0), (89, .getfield 116, 92, 7, 35, 0), (92, .iload_n 1, 93, 0, 0, 0),
  (93, .iconst 2, 94, 0, 0, 2), (94, .iastore, 95, 0, 0, 0), (95, .aload_n 0, 96, 0, 0, 0), (96, .getfield 119, 99, 7, 36, 0), (99, .iload_n 1, 100, 0, 0, 0), (100, .iaload, 101, 0, 0, 0),
  (101, .iconst 1, 102, 0, 0, 1), (102, .isub, 103, 0, 0, 0), (103, .istore_n 2, 104, 0, 0, 0), (104, .aload_n 0, 105, 0, 0, 0), (105, .getfield 116, 108, 7, 35, 0), (108, .iload_n 1, 109, 0, 0, 0),
  (109, .iaload, 110, 0, 0, 0), (110, .iconst 1, 111, 0, 0, 1), (111, .if_icmp .ne 167, 114, 278, 0, 0), (114, .aload_n 0, 115, 0, 0, 0), (115, .getfield 149, 118, 7, 46, 0), (118, .iload_n 1, 119, 0, 0, 0),
  (119, .baload, 120, 0, 0, 0), (120, .ifCond .ne 158, 123, 278, 0, 0), (123, .aload_n 0, 124, 0, 0, 0), (124, .getfield 140, 127, 7, 43, 0), (127, .iload_n 1, 128, 0, 0, 0), (128, .iaload, 129, 0, 0, 0),
  (129, .iconst 3, 130, 0, 0, 3), (130, .if_icmp .ge 148, 133, 278, 0, 0), (133, .aload_n 0, 134, 0, 0, 0), (134, .getfield 140, 137, 7, 43, 0), (137, .iload_n 1, 138, 0, 0, 0), (138, .iaload, 139, 0, 0, 0),
  (139, .aload_n 0, 140, 0, 0, 0), (140, .getfield 143, 143, 7, 44, 0), (143, .iload_n 1, 144, 0, 0, 0), (144, .iaload, 145, 0, 0, 0), (145, .if_icmp .ge 133, 148, 278, 0, 0), (148, .aload_n 0, 149, 0, 0, 0),
  (149, .getfield 23, 152, 7, 4, 0), (152, .iload_n 2, 153, 0, 0, 0), (153, .iaload, 154, 0, 0, 0), (154, .iconst 4, 155, 0, 0, 4), (155, .if_icmp .ge 123, 158, 278, 0, 0), (158, .aload_n 0, 159, 0, 0, 0),
  (159, .iconst 2, 160, 0, 0, 2), (160, .aload_n 0, 161, 0, 0, 0), (161, .getfield 125, 164, 7, 38, 0), (164, .iload_n 1, 165, 0, 0, 0), (165, .iaload, 166, 0, 0, 0), (166, .aload_n 0, 167, 0, 0, 0),
  (167, .getfield 119, 170, 7, 36, 0), (170, .iload_n 1, 171, 0, 0, 0), (171, .iaload, 172, 0, 0, 0), (172, .aload_n 0, 173, 0, 0, 0), (173, .getfield 122, 176, 7, 37, 0), (176, .iload_n 1, 177, 0, 0, 0),
  (177, .iaload, 178, 0, 0, 0), (178, .aload_n 0, 179, 0, 0, 0), (179, .getfield 128, 182, 7, 39, 0), (182, .iload_n 1, 183, 0, 0, 0), (183, .iaload, 184, 0, 0, 0), (184, .aload_n 0, 185, 0, 0, 0),
  (185, .getfield 131, 188, 7, 40, 0), (188, .iload_n 1, 189, 0, 0, 0), (189, .iaload, 190, 0, 0, 0), (190, .invokevirtual 225, 193, 55, 7, 0), (193, .aload_n 0, 194, 0, 0, 0), (194, .getfield 62, 197, 7, 17, 0),
  (197, .bipush 63, 199, 0, 0, 63), (199, .iload_n 1, 200, 0, 0, 0), (200, .iastore, 201, 0, 0, 0), (201, .aload_n 0, 202, 0, 0, 0), (202, .getfield 65, 205, 7, 18, 0), (205, .bipush 63, 207, 0, 0, 63),
  (207, .aload_n 0, 208, 0, 0, 0), (208, .getfield 134, 211, 7, 41, 0), (211, .iload_n 1, 212, 0, 0, 0), (212, .iaload, 213, 0, 0, 0), (213, .iastore, 214, 0, 0, 0), (214, .aload_n 0, 215, 0, 0, 0),
  (215, .getfield 68, 218, 7, 19, 0), (218, .bipush 63, 220, 0, 0, 63), (220, .aload_n 0, 221, 0, 0, 0), (221, .getfield 137, 224, 7, 42, 0), (224, .iload_n 1, 225, 0, 0, 0), (225, .iaload, 226, 0, 0, 0),
  (226, .aload_n 0, 227, 0, 0, 0), (227, .getfield 140, 230, 7, 43, 0), (230, .iload_n 1, 231, 0, 0, 0), (231, .iaload, 232, 0, 0, 0), (232, .iadd, 233, 0, 0, 0), (233, .bipush 8, 235, 0, 0, 8),
  (235, .irem, 236, 0, 0, 0), (236, .iastore, 237, 0, 0, 0), (237, .aload_n 0, 238, 0, 0, 0), (238, .getfield 71, 241, 7, 20, 0), (241, .bipush 63, 243, 0, 0, 63), (243, .aload_n 0, 244, 0, 0, 0),
  (244, .getfield 146, 247, 7, 45, 0), (247, .bipush 8, 249, 0, 0, 8), (249, .iload_n 1, 250, 0, 0, 0), (250, .imul, 251, 0, 0, 0), (251, .aload_n 0, 252, 0, 0, 0), (252, .getfield 140, 255, 7, 43, 0),
  (255, .iload_n 1, 256, 0, 0, 0), (256, .iaload, 257, 0, 0, 0), (257, .iadd, 258, 0, 0, 0), (258, .iaload, 259, 0, 0, 0), (259, .iastore, 260, 0, 0, 0), (260, .aload_n 0, 261, 0, 0, 0),
  (261, .iload_n 2, 262, 0, 0, 0), (262, .invokevirtual 222, 265, 54, 2, 0), (265, .aload_n 0, 266, 0, 0, 0), (266, .getfield 140, 269, 7, 43, 0), (269, .iload_n 1, 270, 0, 0, 0), (270, .dup2, 271, 0, 0, 0),
  (271, .iaload, 272, 0, 0, 0), (272, .iconst 1, 273, 0, 0, 1), (273, .iadd, 274, 0, 0, 0), (274, .iastore, 275, 0, 0, 0), (275, .goto (-171), 278, 104, 0, 0), (278, .return_, 279, 0, 0, 0)]
/-- 68: RingBridgesModel.tick(I)I -/
def rb_c68 : List (Nat × rb_I) := [(0, .iconst 0, 1, 0, 0, 0), (1, .istore_n 2, 2, 0, 0, 0), (2, .iload_n 2, 3, 0, 0, 0), (3, .iload_n 1, 4, 0, 0, 0), (4, .if_icmp .ge 72, 7, 76, 0, 0), (7, .iload_n 1, 8, 0, 0, 0),
  (8, .sipush 200, 11, 0, 0, 200), (11, .if_icmp .gt 65, 14, 76, 0, 0), (14, .iconst 0, 15, 0, 0, 0), (15, .istore_n 3, 16, 0, 0, 0), (16, .iload_n 3, 17, 0, 0, 0), (17, .iconst 3, 18, 0, 0, 3),
  (18, .if_icmp .ge 14, 21, 32, 0, 0), (21, .aload_n 0, 22, 0, 0, 0), (22, .iload_n 3, 23, 0, 0, 0), (23, .invokevirtual 238, 26, 62, 2, 0), (26, .iinc 3 1, 29, 0, 0, 1), (29, .goto (-13), 32, 16, 0, 0),
  (32, .iconst 0, 33, 0, 0, 0), (33, .istore_n 3, 34, 0, 0, 0), (34, .iload_n 3, 35, 0, 0, 0), (35, .iconst 4, 36, 0, 0, 4), (36, .if_icmp .ge 24, 39, 60, 0, 0), (39, .aload_n 0, 40, 0, 0, 0),
  (40, .getfield 116, 43, 7, 35, 0), (43, .iload_n 3, 44, 0, 0, 0), (44, .iaload, 45, 0, 0, 0), (45, .iconst 1, 46, 0, 0, 1), (46, .if_icmp .ne 8, 49, 54, 0, 0), (49, .aload_n 0, 50, 0, 0, 0),
  (50, .iload_n 3, 51, 0, 0, 0), (51, .invokevirtual 241, 54, 67, 2, 0), (54, .iinc 3 1, 57, 0, 0, 1), (57, .goto (-23), 60, 34, 0, 0), (60, .aload_n 0, 61, 0, 0, 0), (61, .dup, 62, 0, 0, 0),
  (62, .getfield 244, 65, 7, 54, 0), (65, .iconst 1, 66, 0, 0, 1), (66, .iadd, 67, 0, 0, 0), (67, .putfield 244, 70, 7, 54, 0), (70, .iinc 2 1, 73, 0, 0, 1), (73, .goto (-71), 76, 2, 0, 0),
  (76, .aload_n 0, 77, 0, 0, 0), (77, .getfield 244, 80, 7, 54, 0), (80, .ireturn, 81, 0, 0, 0)]
/-- 69: RingBridgesModel.join(II)Z -/
def rb_c69 : List (Nat × rb_I) := [(0, .iload_n 1, 1, 0, 0, 0), (1, .invokestatic 248, 4, 45, 1, 0), (4, .ifCond .eq 28, 7, 32, 0, 0), (7, .iload_n 2, 8, 0, 0, 0), (8, .invokestatic 173, 11, 46, 1, 0), (11, .ifCond .eq 21, 14, 32, 0, 0),
  (14, .aload_n 0, 15, 0, 0, 0), (15, .iload_n 2, 16, 0, 0, 0), (16, .invokevirtual 251, 19, 47, 2, 0), (19, .ifCond .ne 13, 22, 32, 0, 0), (22, .aload_n 0, 23, 0, 0, 0), (23, .getfield 13, 26, 7, 1, 0),
  (26, .iload_n 1, 27, 0, 0, 0), (27, .iaload, 28, 0, 0, 0), (28, .iconst 5, 29, 0, 0, 5), (29, .if_icmp .ne 5, 32, 34, 0, 0), (32, .iconst 0, 33, 0, 0, 0), (33, .ireturn, 34, 0, 0, 0),
  (34, .aload_n 0, 35, 0, 0, 0), (35, .iload_n 2, 36, 0, 0, 0), (36, .iconst 1, 37, 0, 0, 1), (37, .isub, 38, 0, 0, 0), (38, .iload_n 1, 39, 0, 0, 0), (39, .invokevirtual 254, 42, 51, 3, 0),
  (42, .iconst 1, 43, 0, 0, 1), (43, .ireturn, 44, 0, 0, 0)]
/-- 70: RingBridgesModel.bridge(III)Z -/
def rb_c70 : List (Nat × rb_I) := [(0, .iload_n 1, 1, 0, 0, 0), (1, .ifCond .lt 27, 4, 28, 0, 0), (4, .iload_n 1, 5, 0, 0, 0), (5, .iconst 2, 6, 0, 0, 2), (6, .if_icmp .gt 22, 9, 28, 0, 0), (9, .iload_n 2, 10, 0, 0, 0),
  (10, .invokestatic 248, 13, 45, 1, 0), (13, .ifCond .eq 15, 16, 28, 0, 0), (16, .iload_n 3, 17, 0, 0, 0), (17, .invokestatic 248, 20, 45, 1, 0), (20, .ifCond .eq 8, 23, 28, 0, 0), (23, .iload_n 2, 24, 0, 0, 0),
  (24, .iload_n 3, 25, 0, 0, 0), (25, .if_icmp .ne 5, 28, 30, 0, 0), (28, .iconst 0, 29, 0, 0, 0), (29, .ireturn, 30, 0, 0, 0), (30, .aload_n 0, 31, 0, 0, 0), (31, .getfield 16, 34, 7, 2, 0),
  (34, .bipush 9, 36, 0, 0, 9), (36, .iconst 2, 37, 0, 0, 2), (37, .iload_n 1, 38, 0, 0, 0), (38, .imul, 39, 0, 0, 0), (39, .iadd, 40, 0, 0, 0), (40, .baload, 41, 0, 0, 0),
  (41, .ifCond .ne 23, 44, 64, 0, 0), (44, .aload_n 0, 45, 0, 0, 0), (45, .getfield 13, 48, 7, 1, 0), (48, .iload_n 2, 49, 0, 0, 0), (49, .iaload, 50, 0, 0, 0), (50, .iconst 5, 51, 0, 0, 5),
  (51, .if_icmp .eq 13, 54, 64, 0, 0), (54, .aload_n 0, 55, 0, 0, 0), (55, .getfield 13, 58, 7, 1, 0), (58, .iload_n 3, 59, 0, 0, 0), (59, .iaload, 60, 0, 0, 0), (60, .iconst 5, 61, 0, 0, 5),
  (61, .if_icmp .ne 5, 64, 66, 0, 0), (64, .iconst 0, 65, 0, 0, 0), (65, .ireturn, 66, 0, 0, 0), (66, .aload_n 0, 67, 0, 0, 0), (67, .bipush 9, 69, 0, 0, 9), (69, .iconst 2, 70, 0, 0, 2),
  (70, .iload_n 1, 71, 0, 0, 0), (71, .imul, 72, 0, 0, 0), (72, .iadd, 73, 0, 0, 0), (73, .iload_n 2, 74, 0, 0, 0), (74, .invokevirtual 254, 77, 51, 3, 0), (77, .aload_n 0, 78, 0, 0, 0),
  (78, .bipush 10, 80, 0, 0, 10), (80, .iconst 2, 81, 0, 0, 2), (81, .iload_n 1, 82, 0, 0, 0), (82, .imul, 83, 0, 0, 0), (83, .iadd, 84, 0, 0, 0), (84, .iload_n 3, 85, 0, 0, 0),
  (85, .invokevirtual 254, 88, 51, 3, 0), (88, .iconst 1, 89, 0, 0, 1), (89, .ireturn, 90, 0, 0, 0)]
/-- 71: RingBridgesModel.go(I)V -/
def rb_c71 : List (Nat × rb_I) := [(0, .aload_n 0, 1, 0, 0, 0), (1, .getfield 20, 4, 7, 3, 0), (4, .iload_n 1, 5, 0, 0, 0), (5, .iaload, 6, 0, 0, 0), (6, .istore_n 2, 7, 0, 0, 0), (7, .aload_n 0, 8, 0, 0, 0),
  (8, .getfield 7, 11, 7, 0, 0), (11, .iload_n 1, 12, 0, 0, 0), (12, .iaload, 13, 0, 0, 0), (13, .istore_n 3, 14, 0, 0, 0), (14, .aload_n 0, 15, 0, 0, 0), (15, .getfield 16, 18, 7, 2, 0),
  (18, .iload_n 1, 19, 0, 0, 0), (19, .iconst 0, 20, 0, 0, 0), (20, .bastore, 21, 0, 0, 0), (21, .aload_n 0, 22, 0, 0, 0), (22, .getfield 13, 25, 7, 1, 0), (25, .iload_n 2, 26, 0, 0, 0),
  (26, .dup2, 27, 0, 0, 0), (27, .iaload, 28, 0, 0, 0), (28, .iconst 1, 29, 0, 0, 1), (29, .isub, 30, 0, 0, 0), (30, .iastore, 31, 0, 0, 0), (31, .aload_n 0, 32, 0, 0, 0),
  (32, .getfield 23, 35, 7, 4, 0), (35, .iload_n 1, 36, 0, 0, 0), (36, .iconst 0, 37, 0, 0, 0), (37, .iastore, 38, 0, 0, 0), (38, .iconst 0, 39, 0, 0, 0), (39, .istore 4, 41, 0, 0, 0),
  (41, .iload 4, 43, 0, 0, 0), (43, .bipush 15, 45, 0, 0, 15), (45, .if_icmp .ge 52, 48, 97, 0, 0), (48, .aload_n 0, 49, 0, 0, 0), (49, .getfield 16, 52, 7, 2, 0), (52, .iload 4, 54, 0, 0, 0),
  (54, .baload, 55, 0, 0, 0), (55, .ifCond .eq 36, 58, 91, 0, 0), (58, .aload_n 0, 59, 0, 0, 0), (59, .getfield 20, 62, 7, 3, 0), (62, .iload 4, 64, 0, 0, 0), (64, .iaload, 65, 0, 0, 0),
  (65, .iload_n 2, 66, 0, 0, 0), (66, .if_icmp .ne 25, 69, 91, 0, 0), (69, .aload_n 0, 70, 0, 0, 0), (70, .getfield 7, 73, 7, 0, 0), (73, .iload 4, 75, 0, 0, 0), (75, .iaload, 76, 0, 0, 0),
  (76, .iload_n 3, 77, 0, 0, 0), (77, .if_icmp .le 14, 80, 91, 0, 0), (80, .aload_n 0, 81, 0, 0, 0), (81, .getfield 7, 84, 7, 0, 0), (84, .iload 4, 86, 0, 0, 0), (86, .dup2, 87, 0, 0, 0),
  (87, .iaload, 88, 0, 0, 0), (88, .iconst 1, 89, 0, 0, 1), (89, .isub, 90, 0, 0, 0), (90, .iastore, 91, 0, 0, 0), (91, .iinc 4 1, 94, 0, 0, 1), (94, .goto (-53), 97, 41, 0, 0),
  (97, .aload_n 0, 98, 0, 0, 0), (98, .getfield 77, 101, 7, 22, 0), (101, .iload_n 2, 102, 0, 0, 0), (102, .aload_n 0, 103, 0, 0, 0), (103, .getfield 77, 106, 7, 22, 0), (106, .iload_n 2, 107, 0, 0, 0),
  (107, .iaload, 108, 0, 0, 0), (108, .iload_n 3, 109, 0, 0, 0), (109, .if_icmp .le 14, 112, 123, 0, 0), (112, .aload_n 0, 113, 0, 0, 0), (113, .getfield 77, 116, 7, 22, 0), (116, .iload_n 2, 117, 0, 0, 0),
  (117, .iaload, 118, 0, 0, 0), (118, .iconst 1, 119, 0, 0, 1), (119, .isub, 120, 0, 0, 0), (120, .goto 9, 123, 129, 0, 0), (123, .aload_n 0, 124, 0, 0, 0), (124, .getfield 77, 127, 7, 22, 0),
  (127, .iload_n 2, 128, 0, 0, 0), (128, .iaload, 129, 0, 0, 0), (129, .iastore, 130, 0, 0, 0), (130, .aload_n 0, 131, 0, 0, 0), (131, .getfield 13, 134, 7, 1, 0), (134, .iload_n 2, 135, 0, 0, 0),
  (135, .iaload, 136, 0, 0, 0), (136, .ifCond .le 22, 139, 158, 0, 0), (139, .aload_n 0, 140, 0, 0, 0), (140, .getfield 77, 143, 7, 22, 0), (143, .iload_n 2, 144, 0, 0, 0), (144, .aload_n 0, 145, 0, 0, 0),
  (145, .getfield 77, 148, 7, 22, 0), (148, .iload_n 2, 149, 0, 0, 0), (149, .iaload, 150, 0, 0, 0), (150, .aload_n 0, 151, 0, 0, 0), (151, .getfield 13, 154, 7, 1, 0), (154, .iload_n 2, 155, 0, 0, 0),
  (155, .iaload, 156, 0, 0, 0), (156, .irem, 157, 0, 0, 0), (157, .iastore, 158, 0, 0, 0), (158, .aload_n 0, 159, 0, 0, 0), (159, .getfield 13, 162, 7, 1, 0), (162, .iload_n 2, 163, 0, 0, 0),
  (163, .iaload, 164, 0, 0, 0), (164, .ifCond .ne 17, 167, 181, 0, 0), (167, .aload_n 0, 168, 0, 0, 0), (168, .getfield 74, 171, 7, 21, 0), (171, .iload_n 2, 172, 0, 0, 0), (172, .iconst 0, 173, 0, 0, 0),
  (173, .iastore, 174, 0, 0, 0), (174, .aload_n 0, 175, 0, 0, 0), (175, .getfield 80, 178, 7, 23, 0), (178, .iload_n 2, 179, 0, 0, 0), (179, .iconst 0, 180, 0, 0, 0), (180, .iastore, 181, 0, 0, 0),
  (181, .aload_n 0, 182, 0, 0, 0), (182, .getfield 101, 185, 7, 30, 0), (185, .iload_n 2, 186, 0, 0, 0), (186, .aload_n 0, 187, 0, 0, 0), (187, .getfield 101, 190, 7, 30, 0), (190, .iload_n 2, 191, 0, 0, 0),
  (191, .iaload, 192, 0, 0, 0), (192, .iload_n 1, 193, 0, 0, 0), (193, .invokestatic 177, 196, 44, 1, 0), (196, .if_icmp .ne 7, 199, 203, 0, 0), (199, .iconst 0, 200, 0, 0, 0), (200, .goto 9, 203, 209, 0, 0),
  (203, .aload_n 0, 204, 0, 0, 0), (204, .getfield 101, 207, 7, 30, 0), (207, .iload_n 2, 208, 0, 0, 0), (208, .iaload, 209, 0, 0, 0), (209, .iastore, 210, 0, 0, 0), (210, .aload_n 0, 211, 0, 0, 0),
  (211, .getfield 74, 214, 7, 21, 0), (214, .iload_n 2, 215, 0, 0, 0), (215, .iaload, 216, 0, 0, 0), (216, .iconst 3, 217, 0, 0, 3), (217, .if_icmp .eq 13, 220, 230, 0, 0), (220, .aload_n 0, 221, 0, 0, 0),
  (221, .getfield 74, 224, 7, 21, 0), (224, .iload_n 2, 225, 0, 0, 0), (225, .iaload, 226, 0, 0, 0), (226, .iconst 4, 227, 0, 0, 4), (227, .if_icmp .ne 30, 230, 257, 0, 0), (230, .aload_n 0, 231, 0, 0, 0),
  (231, .getfield 98, 234, 7, 29, 0), (234, .iload_n 2, 235, 0, 0, 0), (235, .iaload, 236, 0, 0, 0), (236, .iload_n 1, 237, 0, 0, 0), (237, .invokestatic 177, 240, 44, 1, 0), (240, .if_icmp .ne 17, 243, 257, 0, 0),
  (243, .aload_n 0, 244, 0, 0, 0), (244, .getfield 74, 247, 7, 21, 0), (247, .iload_n 2, 248, 0, 0, 0), (248, .iconst 0, 249, 0, 0, 0), (249, .iastore, 250, 0, 0, 0), (250, .aload_n 0, 251, 0, 0, 0),
  (251, .getfield 80, 254, 7, 23, 0), (254, .iload_n 2, 255, 0, 0, 0), (255, .iconst 0, 256, 0, 0, 0), (256, .iastore, 257, 0, 0, 0), (257, .return_, 258, 0, 0, 0)]
/-- 72: RingBridgesModel.leave(I)Z -/
def rb_c72 : List (Nat × rb_I) := [(0, .iload_n 1, 1, 0, 0, 0), (1, .iconst 1, 2, 0, 0, 1), (2, .if_icmp .lt 9, 5, 11, 0, 0), (5, .iload_n 1, 6, 0, 0, 0), (6, .bipush 12, 8, 0, 0, 12), (8, .if_icmp .le 5, 11, 13, 0, 0),
  (11, .iconst 0, 12, 0, 0, 0), (12, .ireturn, 13, 0, 0, 0), (13, .iload_n 1, 14, 0, 0, 0), (14, .bipush 10, 16, 0, 0, 10), (16, .if_icmp .ge 9, 19, 25, 0, 0), (19, .iload_n 1, 20, 0, 0, 0),
  (20, .iconst 1, 21, 0, 0, 1), (21, .isub, 22, 0, 0, 0), (22, .goto 12, 25, 34, 0, 0), (25, .bipush 9, 27, 0, 0, 9), (27, .iconst 2, 28, 0, 0, 2), (28, .iload_n 1, 29, 0, 0, 0),
  (29, .bipush 10, 31, 0, 0, 10), (31, .isub, 32, 0, 0, 0), (32, .imul, 33, 0, 0, 0), (33, .iadd, 34, 0, 0, 0), (34, .istore_n 2, 35, 0, 0, 0), (35, .aload_n 0, 36, 0, 0, 0),
  (36, .getfield 16, 39, 7, 2, 0), (39, .iload_n 2, 40, 0, 0, 0), (40, .baload, 41, 0, 0, 0), (41, .ifCond .ne 5, 44, 46, 0, 0), (44, .iconst 0, 45, 0, 0, 0), (45, .ireturn, 46, 0, 0, 0),
  (46, .aload_n 0, 47, 0, 0, 0), (47, .iload_n 2, 48, 0, 0, 0), (48, .invokevirtual 257, 51, 71, 2, 0), (51, .iload_n 2, 52, 0, 0, 0), (52, .bipush 9, 54, 0, 0, 9), (54, .if_icmp .lt 12, 57, 66, 0, 0),
  (57, .aload_n 0, 58, 0, 0, 0), (58, .iload_n 2, 59, 0, 0, 0), (59, .iconst 1, 60, 0, 0, 1), (60, .iadd, 61, 0, 0, 0), (61, .invokevirtual 257, 64, 71, 2, 0), (64, .iconst 1, 65, 0, 0, 1),
  (65, .ireturn, 66, 0, 0, 0), (66, .iconst 0, 67, 0, 0, 0), (67, .istore_n 3, 68, 0, 0, 0), (68, .iload_n 3, 69, 0, 0, 0), (69, .bipush 9, 71, 0, 0, 9), (71, .if_icmp .ge 33, 74, 104, 0, 0),
  (74, .aload_n 0, 75, 0, 0, 0), (75, .getfield 107, 78, 7, 32, 0), (78, .bipush 9, 80, 0, 0, 9), (80, .iload_n 2, 81, 0, 0, 0), (81, .imul, 82, 0, 0, 0), (82, .iload_n 3, 83, 0, 0, 0),
  (83, .iadd, 84, 0, 0, 0), (84, .iconst 0, 85, 0, 0, 0), (85, .bastore, 86, 0, 0, 0), (86, .aload_n 0, 87, 0, 0, 0), (87, .getfield 107, 90, 7, 32, 0), (90, .bipush 9, 92, 0, 0, 9),
  (92, .iload_n 3, 93, 0, 0, 0), (93, .imul, 94, 0, 0, 0), (94, .iload_n 2, 95, 0, 0, 0), (95, .iadd, 96, 0, 0, 0), (96, .iconst 0, 97, 0, 0, 0), (97, .bastore, 98, 0, 0, 0),
  (98, .iinc 3 1, 101, 0, 0, 1), (101, .goto (-33), 104, 68, 0, 0), (104, .iconst 0, 105, 0, 0, 0), (105, .istore_n 3, 106, 0, 0, 0), (106, .iload_n 3, 107, 0, 0, 0), (107, .iconst 4, 108, 0, 0, 4),
  (108, .if_icmp .ge 46, 111, 154, 0, 0), (111, .aload_n 0, 112, 0, 0, 0), (112, .getfield 116, 115, 7, 35, 0), (115, .iload_n 3, 116, 0, 0, 0), (116, .iaload, 117, 0, 0, 0), (117, .iconst 1, 118, 0, 0, 1),
  (118, .if_icmp .ne 30, 121, 148, 0, 0), (121, .aload_n 0, 122, 0, 0, 0), (122, .getfield 119, 125, 7, 36, 0), (125, .iload_n 3, 126, 0, 0, 0), (126, .iaload, 127, 0, 0, 0), (127, .iload_n 1, 128, 0, 0, 0),
  (128, .if_icmp .eq 13, 131, 141, 0, 0), (131, .aload_n 0, 132, 0, 0, 0), (132, .getfield 122, 135, 7, 37, 0), (135, .iload_n 3, 136, 0, 0, 0), (136, .iaload, 137, 0, 0, 0), (137, .iload_n 1, 138, 0, 0, 0),
  (138, .if_icmp .ne 10, 141, 148, 0, 0), (141, .aload_n 0, 142, 0, 0, 0), (142, .getfield 116, 145, 7, 35, 0), (145, .iload_n 3, 146, 0, 0, 0), (146, .iconst 2, 147, 0, 0, 2), (147, .iastore, 148, 0, 0, 0),
  (148, .iinc 3 1, 151, 0, 0, 1), (151, .goto (-45), 154, 106, 0, 0), (154, .iconst 1, 155, 0, 0, 1), (155, .ireturn, 156, 0, 0, 0)]
/-- 73: RingBridgesModel.damage(I)Z -/
def rb_c73 : List (Nat × rb_I) := [(0, .iload_n 1, 1, 0, 0, 0), (1, .invokestatic 248, 4, 45, 1, 0), (4, .ifCond .eq 12, 7, 16, 0, 0), (7, .aload_n 0, 8, 0, 0, 0), (8, .getfield 74, 11, 7, 21, 0), (11, .iload_n 1, 12, 0, 0, 0),
  (12, .iaload, 13, 0, 0, 0), (13, .ifCond .ne 5, 16, 18, 0, 0), (16, .iconst 0, 17, 0, 0, 0), (17, .ireturn, 18, 0, 0, 0), (18, .aload_n 0, 19, 0, 0, 0), (19, .getfield 74, 22, 7, 21, 0),
  (22, .iload_n 1, 23, 0, 0, 0), (23, .iaload, 24, 0, 0, 0), (24, .iconst 2, 25, 0, 0, 2), (25, .if_icmp .ne 13, 28, 38, 0, 0), (28, .aload_n 0, 29, 0, 0, 0), (29, .getfield 92, 32, 7, 27, 0),
  (32, .iload_n 1, 33, 0, 0, 0), (33, .iconst 1, 34, 0, 0, 1), (34, .bastore, 35, 0, 0, 0), (35, .goto 17, 38, 52, 0, 0), (38, .aload_n 0, 39, 0, 0, 0), (39, .getfield 74, 42, 7, 21, 0),
  (42, .iload_n 1, 43, 0, 0, 0), (43, .iconst 0, 44, 0, 0, 0), (44, .iastore, 45, 0, 0, 0), (45, .aload_n 0, 46, 0, 0, 0), (46, .getfield 80, 49, 7, 23, 0), (49, .iload_n 1, 50, 0, 0, 0),
  (50, .iconst 0, 51, 0, 0, 0), (51, .iastore, 52, 0, 0, 0), (52, .iconst 1, 53, 0, 0, 1), (53, .ireturn, 54, 0, 0, 0)]
/-- 74: RingBridgesModel.explore(II)Z -/
def rb_c74 : List (Nat × rb_I) := [(0, .aload_n 0, 1, 0, 0, 0), (1, .iload_n 1, 2, 0, 0, 0), (2, .invokevirtual 251, 5, 47, 2, 0), (5, .ifCond .eq 27, 8, 32, 0, 0), (8, .iload_n 2, 9, 0, 0, 0), (9, .invokestatic 173, 12, 46, 1, 0),
  (12, .ifCond .eq 20, 15, 32, 0, 0), (15, .iload_n 1, 16, 0, 0, 0), (16, .iload_n 2, 17, 0, 0, 0), (17, .if_icmp .eq 15, 20, 32, 0, 0), (20, .aload_n 0, 21, 0, 0, 0), (21, .getfield 23, 24, 7, 4, 0),
  (24, .iload_n 1, 25, 0, 0, 0), (25, .iconst 1, 26, 0, 0, 1), (26, .isub, 27, 0, 0, 0), (27, .iaload, 28, 0, 0, 0), (28, .iconst 4, 29, 0, 0, 4), (29, .if_icmp .ne 5, 32, 34, 0, 0),
  (32, .iconst 0, 33, 0, 0, 0), (33, .ireturn, 34, 0, 0, 0), (34, .aload_n 0, 35, 0, 0, 0), (35, .iconst 0, 36, 0, 0, 0), (36, .iconst 1, 37, 0, 0, 1), (37, .iload_n 1, 38, 0, 0, 0),
  (38, .iload_n 2, 39, 0, 0, 0), (39, .iconst (-1), 40, 0, 0, (-1)), (40, .iconst (-1), 41, 0, 0, (-1)), (41, .invokevirtual 225, 44, 55, 7, 0), (44, .aload_n 0, 45, 0, 0, 0), (45, .getfield 59, 48, 7, 16, 0),
  (48, .bipush 63, 50, 0, 0, 63), (50, .iconst 1, 51, 0, 0, 1), (51, .aload_n 0, 52, 0, 0, 0), (52, .getfield 20, 55, 7, 3, 0), (55, .iload_n 1, 56, 0, 0, 0), (56, .iconst 1, 57, 0, 0, 1),
  (57, .isub, 58, 0, 0, 0), (58, .iaload, 59, 0, 0, 0), (59, .ishl, 60, 0, 0, 0), (60, .iastore, 61, 0, 0, 0), (61, .aload_n 0, 62, 0, 0, 0), (62, .iload_n 1, 63, 0, 0, 0),
  (63, .iconst 1, 64, 0, 0, 1), (64, .isub, 65, 0, 0, 0), (65, .invokevirtual 222, 68, 54, 2, 0), (68, .iconst 1, 69, 0, 0, 1), (69, .ireturn, 70, 0, 0, 0)]
/-- 75: RingBridgesModel.forget(II)Z -/
def rb_c75 : List (Nat × rb_I) := [(0, .iload_n 1, 1, 0, 0, 0), (1, .invokestatic 173, 4, 46, 1, 0), (4, .ifCond .eq 28, 7, 32, 0, 0), (7, .iload_n 2, 8, 0, 0, 0), (8, .invokestatic 173, 11, 46, 1, 0), (11, .ifCond .eq 21, 14, 32, 0, 0),
  (14, .aload_n 0, 15, 0, 0, 0), (15, .getfield 107, 18, 7, 32, 0), (18, .bipush 9, 20, 0, 0, 9), (20, .iload_n 1, 21, 0, 0, 0), (21, .iconst 1, 22, 0, 0, 1), (22, .isub, 23, 0, 0, 0),
  (23, .imul, 24, 0, 0, 0), (24, .iload_n 2, 25, 0, 0, 0), (25, .iadd, 26, 0, 0, 0), (26, .iconst 1, 27, 0, 0, 1), (27, .isub, 28, 0, 0, 0), (28, .baload, 29, 0, 0, 0),
  (29, .ifCond .ne 5, 32, 34, 0, 0), (32, .iconst 0, 33, 0, 0, 0), (33, .ireturn, 34, 0, 0, 0), (34, .aload_n 0, 35, 0, 0, 0), (35, .getfield 107, 38, 7, 32, 0), (38, .bipush 9, 40, 0, 0, 9),
  (40, .iload_n 1, 41, 0, 0, 0), (41, .iconst 1, 42, 0, 0, 1), (42, .isub, 43, 0, 0, 0), (43, .imul, 44, 0, 0, 0), (44, .iload_n 2, 45, 0, 0, 0), (45, .iadd, 46, 0, 0, 0),
  (46, .iconst 1, 47, 0, 0, 1), (47, .isub, 48, 0, 0, 0), (48, .iconst 0, 49, 0, 0, 0), (49, .bastore, 50, 0, 0, 0), (50, .iconst 1, 51, 0, 0, 1), (51, .ireturn, 52, 0, 0, 0)]
/-- 76: RingBridgesModel.route(II)I -/
def rb_c76 : List (Nat × rb_I) := [(0, .iload_n 1, 1, 0, 0, 0), (1, .invokestatic 173, 4, 46, 1, 0), (4, .ifCond .eq 28, 7, 32, 0, 0), (7, .iload_n 2, 8, 0, 0, 0), (8, .invokestatic 173, 11, 46, 1, 0), (11, .ifCond .eq 21, 14, 32, 0, 0),
  (14, .aload_n 0, 15, 0, 0, 0), (15, .getfield 107, 18, 7, 32, 0), (18, .bipush 9, 20, 0, 0, 9), (20, .iload_n 1, 21, 0, 0, 0), (21, .iconst 1, 22, 0, 0, 1), (22, .isub, 23, 0, 0, 0),
  (23, .imul, 24, 0, 0, 0), (24, .iload_n 2, 25, 0, 0, 0), (25, .iadd, 26, 0, 0, 0), (26, .iconst 1, 27, 0, 0, 1), (27, .isub, 28, 0, 0, 0), (28, .baload, 29, 0, 0, 0),
  (29, .ifCond .ne 5, 32, 34, 0, 0), (32, .iconst (-1), 33, 0, 0, (-1)), (33, .ireturn, 34, 0, 0, 0), (34, .bipush 9, 36, 0, 0, 9), (36, .iload_n 1, 37, 0, 0, 0), (37, .iconst 1, 38, 0, 0, 1),
  (38, .isub, 39, 0, 0, 0), (39, .imul, 40, 0, 0, 0), (40, .iload_n 2, 41, 0, 0, 0), (41, .iadd, 42, 0, 0, 0), (42, .iconst 1, 43, 0, 0, 1), (43, .isub, 44, 0, 0, 0),
  (44, .istore_n 3, 45, 0, 0, 0), (45, .aload_n 0, 46, 0, 0, 0), (46, .getfield 110, 49, 7, 33, 0), (49, .iload_n 3, 50, 0, 0, 0), (50, .iaload, 51, 0, 0, 0), (51, .iconst 1, 52, 0, 0, 1),
  (52, .iadd, 53, 0, 0, 0), (53, .iconst 4, 54, 0, 0, 4), (54, .aload_n 0, 55, 0, 0, 0), (55, .getfield 113, 58, 7, 34, 0), (58, .iload_n 3, 59, 0, 0, 0), (59, .iaload, 60, 0, 0, 0),
  (60, .iconst 1, 61, 0, 0, 1), (61, .iadd, 62, 0, 0, 0), (62, .imul, 63, 0, 0, 0), (63, .iadd, 64, 0, 0, 0), (64, .ireturn, 65, 0, 0, 0)]
/-- 77: RingBridgesModel.open(III)I -/
def rb_c77 : List (Nat × rb_I) := [(0, .aload_n 0, 1, 0, 0, 0), (1, .iload_n 1, 2, 0, 0, 0), (2, .invokevirtual 251, 5, 47, 2, 0), (5, .ifCond .eq 25, 8, 30, 0, 0), (8, .aload_n 0, 9, 0, 0, 0), (9, .iload_n 2, 10, 0, 0, 0),
  (10, .invokevirtual 251, 13, 47, 2, 0), (13, .ifCond .eq 17, 16, 30, 0, 0), (16, .iload_n 1, 17, 0, 0, 0), (17, .iload_n 2, 18, 0, 0, 0), (18, .if_icmp .eq 12, 21, 30, 0, 0), (21, .iload_n 3, 22, 0, 0, 0),
  (22, .ifCond .lt 8, 25, 30, 0, 0), (25, .iload_n 3, 26, 0, 0, 0), (26, .iconst 3, 27, 0, 0, 3), (27, .if_icmp .le 5, 30, 32, 0, 0), (30, .iconst (-1), 31, 0, 0, (-1)), (31, .ireturn, 32, 0, 0, 0),
  (32, .aload_n 0, 33, 0, 0, 0), (33, .getfield 20, 36, 7, 3, 0), (36, .iload_n 1, 37, 0, 0, 0), (37, .iconst 1, 38, 0, 0, 1), (38, .isub, 39, 0, 0, 0), (39, .iaload, 40, 0, 0, 0),
  (40, .aload_n 0, 41, 0, 0, 0), (41, .getfield 20, 44, 7, 3, 0), (44, .iload_n 2, 45, 0, 0, 0), (45, .iconst 1, 46, 0, 0, 1), (46, .isub, 47, 0, 0, 0), (47, .iaload, 48, 0, 0, 0),
  (48, .if_icmp .eq 7, 51, 55, 0, 0), (51, .iconst 1, 52, 0, 0, 1), (52, .goto 4, 55, 56, 0, 0), (55, .iconst 0, 56, 0, 0, 0), (56, .istore 4, 58, 0, 0, 0), (58, .bipush 9, 60, 0, 0, 9),
  (60, .iload_n 1, 61, 0, 0, 0), (61, .iconst 1, 62, 0, 0, 1), (62, .isub, 63, 0, 0, 0), (63, .imul, 64, 0, 0, 0), (64, .iload_n 2, 65, 0, 0, 0), (65, .iadd, 66, 0, 0, 0),
  (66, .iconst 1, 67, 0, 0, 1), (67, .isub, 68, 0, 0, 0), (68, .istore 5, 70, 0, 0, 0), (70, .iload 4, 72, 0, 0, 0), (72, .ifCond .eq 26, 75, 98, 0, 0), (75, .aload_n 0, 76, 0, 0, 0),
  (76, .getfield 107, 79, 7, 32, 0), (79, .iload 5, 81, 0, 0, 0), (81, .baload, 82, 0, 0, 0), (82, .ifCond .eq 13, 85, 95, 0, 0), (85, .aload_n 0, 86, 0, 0, 0), (86, .getfield 110, 89, 7, 33, 0),
  (89, .iload 5, 91, 0, 0, 0), (91, .iaload, 92, 0, 0, 0), (92, .ifCond .ge 6, 95, 98, 0, 0), (95, .bipush (-2), 97, 0, 0, (-2)), (97, .ireturn, 98, 0, 0, 0), (98, .iconst 0, 99, 0, 0, 0),
  (99, .istore 6, 101, 0, 0, 0), (101, .iload 6, 103, 0, 0, 0), (103, .iconst 4, 104, 0, 0, 4), (104, .if_icmp .ge 19, 107, 123, 0, 0), (107, .aload_n 0, 108, 0, 0, 0), (108, .getfield 116, 111, 7, 35, 0),
  (111, .iload 6, 113, 0, 0, 0), (113, .iaload, 114, 0, 0, 0), (114, .ifCond .eq 9, 117, 123, 0, 0), (117, .iinc 6 1, 120, 0, 0, 1), (120, .goto (-19), 123, 101, 0, 0), (123, .iload 6, 125, 0, 0, 0),
  (125, .iconst 4, 126, 0, 0, 4), (126, .if_icmp .ne 6, 129, 132, 0, 0), (129, .bipush (-3), 131, 0, 0, (-3)), (131, .ireturn, 132, 0, 0, 0), (132, .aload_n 0, 133, 0, 0, 0), (133, .getfield 116, 136, 7, 35, 0),
  (136, .iload 6, 138, 0, 0, 0), (138, .iconst 1, 139, 0, 0, 1), (139, .iastore, 140, 0, 0, 0), (140, .aload_n 0, 141, 0, 0, 0), (141, .getfield 119, 144, 7, 36, 0), (144, .iload 6, 146, 0, 0, 0),
  (146, .iload_n 1, 147, 0, 0, 0), (147, .iastore, 148, 0, 0, 0), (148, .aload_n 0, 149, 0, 0, 0), (149, .getfield 122, 152, 7, 37, 0), (152, .iload 6, 154, 0, 0, 0), (154, .iload_n 2, 155, 0, 0, 0),
  (155, .iastore, 156, 0, 0, 0), (156, .aload_n 0, 157, 0, 0, 0), (157, .getfield 125, 160, 7, 38, 0), (160, .iload 6, 162, 0, 0, 0), (162, .iload_n 3, 163, 0, 0, 0), (163, .iastore, 164, 0, 0, 0),
  (164, .aload_n 0, 165, 0, 0, 0), (165, .getfield 128, 168, 7, 39, 0), (168, .iload 6, 170, 0, 0, 0), (170, .iload 4, 172, 0, 0, 0), (172, .ifCond .eq 13, 175, 185, 0, 0), (175, .aload_n 0, 176, 0, 0, 0),
  (176, .getfield 110, 179, 7, 33, 0), (179, .iload 5, 181, 0, 0, 0), (181, .iaload, 182, 0, 0, 0), (182, .goto 4, 185, 186, 0, 0), (185, .iconst (-1), 186, 0, 0, (-1)), (186, .iastore, 187, 0, 0, 0),
  (187, .aload_n 0, 188, 0, 0, 0), (188, .getfield 131, 191, 7, 40, 0), (191, .iload 6, 193, 0, 0, 0), (193, .iload 4, 195, 0, 0, 0), (195, .ifCond .eq 13, 198, 208, 0, 0), (198, .aload_n 0, 199, 0, 0, 0),
  (199, .getfield 113, 202, 7, 34, 0), (202, .iload 5, 204, 0, 0, 0), (204, .iaload, 205, 0, 0, 0), (205, .goto 4, 208, 209, 0, 0), (208, .iconst (-1), 209, 0, 0, (-1)), (209, .iastore, 210, 0, 0, 0),
  (210, .aload_n 0, 211, 0, 0, 0), (211, .getfield 134, 214, 7, 41, 0), (214, .iload 6, 216, 0, 0, 0), (216, .dup2, 217, 0, 0, 0), (217, .iaload, 218, 0, 0, 0), (218, .iconst 1, 219, 0, 0, 1),
  (219, .iadd, 220, 0, 0, 0), (220, .iastore, 221, 0, 0, 0), (221, .aload_n 0, 222, 0, 0, 0), (222, .getfield 137, 225, 7, 42, 0), (225, .iload 6, 227, 0, 0, 0), (227, .iconst 0, 228, 0, 0, 0),
  (228, .iastore, 229, 0, 0, 0), (229, .aload_n 0, 230, 0, 0, 0), (230, .getfield 140, 233, 7, 43, 0), (233, .iload 6, 235, 0, 0, 0), (235, .iconst 0, 236, 0, 0, 0), (236, .iastore, 237, 0, 0, 0),
  (237, .aload_n 0, 238, 0, 0, 0), (238, .getfield 143, 241, 7, 44, 0), (241, .iload 6, 243, 0, 0, 0), (243, .iconst 0, 244, 0, 0, 0), (244, .iastore, 245, 0, 0, 0), (245, .aload_n 0, 246, 0, 0, 0),
  (246, .getfield 149, 249, 7, 46, 0), (249, .iload 6, 251, 0, 0, 0), (251, .iconst 0, 252, 0, 0, 0), (252, .bastore, 253, 0, 0, 0), (253, .aload_n 0, 254, 0, 0, 0), (254, .getfield 152, 257, 7, 47, 0),
  (257, .iload 6, 259, 0, 0, 0), (259, .iconst 0, 260, 0, 0, 0), (260, .iastore, 261, 0, 0, 0), (261, .aload_n 0, 262, 0, 0, 0), (262, .getfield 155, 265, 7, 48, 0), (265, .iload 6, 267, 0, 0, 0),
  (267, .iconst 0, 268, 0, 0, 0), (268, .iastore, 269, 0, 0, 0), (269, .aload_n 0, 270, 0, 0, 0), (270, .getfield 158, 273, 7, 49, 0), (273, .iload 6, 275, 0, 0, 0), (275, .iconst 0, 276, 0, 0, 0),
  (276, .iastore, 277, 0, 0, 0), (277, .aload_n 0, 278, 0, 0, 0), (278, .getfield 161, 281, 7, 50, 0), (281, .iload 6, 283, 0, 0, 0), (283, .iconst 0, 284, 0, 0, 0), (284, .iastore, 285, 0, 0, 0),
  (285, .aload_n 0, 286, 0, 0, 0), (286, .getfield 167, 289, 7, 52, 0), (289, .iload 6, 291, 0, 0, 0), (291, .iconst 0, 292, 0, 0, 0), (292, .bastore, 293, 0, 0, 0), (293, .aload_n 0, 294, 0, 0, 0),
  (294, .getfield 170, 297, 7, 53, 0), (297, .iload 6, 299, 0, 0, 0), (299, .iconst 0, 300, 0, 0, 0), (300, .bastore, 301, 0, 0, 0), (301, .iload 6, 303, 0, 0, 0), (303, .ireturn, 304, 0, 0, 0)]
/-- 78: RingBridgesModel.isConnection(I)Z -/
def rb_c78 : List (Nat × rb_I) := [(0, .iload_n 0, 1, 0, 0, 0), (1, .ifCond .lt 12, 4, 13, 0, 0), (4, .iload_n 0, 5, 0, 0, 0), (5, .iconst 3, 6, 0, 0, 3), (6, .if_icmp .gt 7, 9, 13, 0, 0), (9, .iconst 1, 10, 0, 0, 1),
  (10, .goto 4, 13, 14, 0, 0), (13, .iconst 0, 14, 0, 0, 0), (14, .ireturn, 15, 0, 0, 0)]
/-- 79: RingBridgesModel.close(I)Z -/
def rb_c79 : List (Nat × rb_I) := [(0, .iload_n 1, 1, 0, 0, 0), (1, .invokestatic 260, 4, 78, 1, 0), (4, .ifCond .eq 12, 7, 16, 0, 0), (7, .aload_n 0, 8, 0, 0, 0), (8, .getfield 116, 11, 7, 35, 0), (11, .iload_n 1, 12, 0, 0, 0),
  (12, .iaload, 13, 0, 0, 0), (13, .ifCond .ne 5, 16, 18, 0, 0), (16, .iconst 0, 17, 0, 0, 0), (17, .ireturn, 18, 0, 0, 0), (18, .aload_n 0, 19, 0, 0, 0), (19, .getfield 116, 22, 7, 35, 0),
  (22, .iload_n 1, 23, 0, 0, 0), (23, .iconst 0, 24, 0, 0, 0), (24, .iastore, 25, 0, 0, 0), (25, .iconst 1, 26, 0, 0, 1), (26, .ireturn, 27, 0, 0, 0)]
/-- 80: RingBridgesModel.offer(II)Z -/
def rb_c80 : List (Nat × rb_I) := [(0, .iload_n 1, 1, 0, 0, 0), (1, .invokestatic 260, 4, 78, 1, 0), (4, .ifCond .eq 35, 7, 39, 0, 0), (7, .aload_n 0, 8, 0, 0, 0), (8, .getfield 116, 11, 7, 35, 0), (11, .iload_n 1, 12, 0, 0, 0),
  (12, .iaload, 13, 0, 0, 0), (13, .iconst 1, 14, 0, 0, 1), (14, .if_icmp .ne 25, 17, 39, 0, 0), (17, .iload_n 2, 18, 0, 0, 0), (18, .ifCond .lt 21, 21, 39, 0, 0), (21, .iload_n 2, 22, 0, 0, 0),
  (22, .sipush 255, 25, 0, 0, 255), (25, .if_icmp .gt 14, 28, 39, 0, 0), (28, .aload_n 0, 29, 0, 0, 0), (29, .getfield 143, 32, 7, 44, 0), (32, .iload_n 1, 33, 0, 0, 0), (33, .iaload, 34, 0, 0, 0),
  (34, .bipush 8, 36, 0, 0, 8), (36, .if_icmp .ne 5, 39, 41, 0, 0), (39, .iconst 0, 40, 0, 0, 0), (40, .ireturn, 41, 0, 0, 0), (41, .aload_n 0, 42, 0, 0, 0), (42, .getfield 146, 45, 7, 45, 0),
  (45, .bipush 8, 47, 0, 0, 8), (47, .iload_n 1, 48, 0, 0, 0), (48, .imul, 49, 0, 0, 0), (49, .aload_n 0, 50, 0, 0, 0), (50, .getfield 143, 53, 7, 44, 0), (53, .iload_n 1, 54, 0, 0, 0),
  (54, .iaload, 55, 0, 0, 0), (55, .iadd, 56, 0, 0, 0), (56, .iload_n 2, 57, 0, 0, 0), (57, .iastore, 58, 0, 0, 0), (58, .aload_n 0, 59, 0, 0, 0), (59, .getfield 143, 62, 7, 44, 0),
  (62, .iload_n 1, 63, 0, 0, 0), (63, .dup2, 64, 0, 0, 0), (64, .iaload, 65, 0, 0, 0), (65, .iconst 1, 66, 0, 0, 1), (66, .iadd, 67, 0, 0, 0), (67, .iastore, 68, 0, 0, 0),
  (68, .iconst 1, 69, 0, 0, 1), (69, .ireturn, 70, 0, 0, 0)]
/-- 81: RingBridgesModel.take(I)I -/
def rb_c81 : List (Nat × rb_I) := [(0, .iload_n 1, 1, 0, 0, 0), (1, .invokestatic 260, 4, 78, 1, 0), (4, .ifCond .eq 21, 7, 25, 0, 0), (7, .aload_n 0, 8, 0, 0, 0), (8, .getfield 116, 11, 7, 35, 0), (11, .iload_n 1, 12, 0, 0, 0),
  (12, .iaload, 13, 0, 0, 0), (13, .ifCond .eq 12, 16, 25, 0, 0), (16, .aload_n 0, 17, 0, 0, 0), (17, .getfield 161, 20, 7, 50, 0), (20, .iload_n 1, 21, 0, 0, 0), (21, .iaload, 22, 0, 0, 0),
  (22, .ifCond .ne 5, 25, 27, 0, 0), (25, .iconst (-1), 26, 0, 0, (-1)), (26, .ireturn, 27, 0, 0, 0), (27, .aload_n 0, 28, 0, 0, 0), (28, .getfield 164, 31, 7, 51, 0), (31, .iconst 4, 32, 0, 0, 4),
  (32, .iload_n 1, 33, 0, 0, 0), (33, .imul, 34, 0, 0, 0), (34, .iaload, 35, 0, 0, 0), (35, .istore_n 2, 36, 0, 0, 0), (36, .aload_n 0, 37, 0, 0, 0), (37, .getfield 161, 40, 7, 50, 0),
  (40, .iload_n 1, 41, 0, 0, 0), (41, .dup2, 42, 0, 0, 0), (42, .iaload, 43, 0, 0, 0), (43, .iconst 1, 44, 0, 0, 1), (44, .isub, 45, 0, 0, 0), (45, .iastore, 46, 0, 0, 0),
  (46, .iconst 0, 47, 0, 0, 0), (47, .istore_n 3, 48, 0, 0, 0), (48, .iload_n 3, 49, 0, 0, 0), (49, .aload_n 0, 50, 0, 0, 0), (50, .getfield 161, 53, 7, 50, 0), (53, .iload_n 1, 54, 0, 0, 0),
  (54, .iaload, 55, 0, 0, 0), (55, .if_icmp .ge 31, 58, 86, 0, 0), (58, .aload_n 0, 59, 0, 0, 0), (59, .getfield 164, 62, 7, 51, 0), (62, .iconst 4, 63, 0, 0, 4), (63, .iload_n 1, 64, 0, 0, 0),
  (64, .imul, 65, 0, 0, 0), (65, .iload_n 3, 66, 0, 0, 0), (66, .iadd, 67, 0, 0, 0), (67, .aload_n 0, 68, 0, 0, 0), (68, .getfield 164, 71, 7, 51, 0), (71, .iconst 4, 72, 0, 0, 4),
  (72, .iload_n 1, 73, 0, 0, 0), (73, .imul, 74, 0, 0, 0), (74, .iload_n 3, 75, 0, 0, 0), (75, .iadd, 76, 0, 0, 0), (76, .iconst 1, 77, 0, 0, 1), (77, .iadd, 78, 0, 0, 0),
  (78, .iaload, 79, 0, 0, 0), (79, .iastore, 80, 0, 0, 0), (80, .iinc 3 1, 83, 0, 0, 1), (83, .goto (-35), 86, 48, 0, 0), (86, .aload_n 0, 87, 0, 0, 0), (87, .getfield 116, 90, 7, 35, 0),
  (90, .iload_n 1, 91, 0, 0, 0), (91, .iaload, 92, 0, 0, 0), (92, .iconst 1, 93, 0, 0, 1), (93, .if_icmp .ne 42, 96, 135, 0, 0), (96, .aload_n 0, 97, 0, 0, 0), (97, .getfield 170, 100, 7, 53, 0),
  (100, .iload_n 1, 101, 0, 0, 0), (101, .baload, 102, 0, 0, 0), (102, .ifCond .eq 33, 105, 135, 0, 0), (105, .aload_n 0, 106, 0, 0, 0), (106, .getfield 23, 109, 7, 4, 0), (109, .aload_n 0, 110, 0, 0, 0),
  (110, .getfield 122, 113, 7, 37, 0), (113, .iload_n 1, 114, 0, 0, 0), (114, .iaload, 115, 0, 0, 0), (115, .iconst 1, 116, 0, 0, 1), (116, .isub, 117, 0, 0, 0), (117, .iaload, 118, 0, 0, 0),
  (118, .iconst 4, 119, 0, 0, 4), (119, .if_icmp .ge 16, 122, 135, 0, 0), (122, .aload_n 0, 123, 0, 0, 0), (123, .getfield 170, 126, 7, 53, 0), (126, .iload_n 1, 127, 0, 0, 0), (127, .iconst 0, 128, 0, 0, 0),
  (128, .bastore, 129, 0, 0, 0), (129, .aload_n 0, 130, 0, 0, 0), (130, .iload_n 1, 131, 0, 0, 0), (131, .iconst 3, 132, 0, 0, 3), (132, .invokevirtual 235, 135, 64, 3, 0), (135, .iload_n 2, 136, 0, 0, 0),
  (136, .ireturn, 137, 0, 0, 0)]
/-- 82: RingBridgesModel.signal(I)I -/
def rb_c82 : List (Nat × rb_I) := [(0, .iload_n 1, 1, 0, 0, 0), (1, .invokestatic 248, 4, 45, 1, 0), (4, .ifCond .ne 5, 7, 9, 0, 0), (7, .iconst (-1), 8, 0, 0, (-1)), (8, .ireturn, 9, 0, 0, 0), (9, .aload_n 0, 10, 0, 0, 0),
  (10, .getfield 74, 13, 7, 21, 0), (13, .iload_n 1, 14, 0, 0, 0), (14, .iaload, 15, 0, 0, 0), (15, .istore_n 2, 16, 0, 0, 0), (16, .iload_n 2, 17, 0, 0, 0), (17, .iconst 3, 18, 0, 0, 3),
  (18, .if_icmp .eq 8, 21, 26, 0, 0), (21, .iload_n 2, 22, 0, 0, 0), (22, .iconst 4, 23, 0, 0, 4), (23, .if_icmp .ne 15, 26, 38, 0, 0), (26, .iload_n 2, 27, 0, 0, 0), (27, .bipush 8, 29, 0, 0, 8),
  (29, .aload_n 0, 30, 0, 0, 0), (30, .getfield 98, 33, 7, 29, 0), (33, .iload_n 1, 34, 0, 0, 0), (34, .iaload, 35, 0, 0, 0), (35, .imul, 36, 0, 0, 0), (36, .iadd, 37, 0, 0, 0),
  (37, .ireturn, 38, 0, 0, 0), (38, .iload_n 2, 39, 0, 0, 0), (39, .ifCond .ne 7, 42, 46, 0, 0), (42, .iconst 0, 43, 0, 0, 0), (43, .goto 75, 46, 118, 0, 0), (46, .iload_n 2, 47, 0, 0, 0),
  (47, .bipush 8, 49, 0, 0, 8), (49, .aload_n 0, 50, 0, 0, 0), (50, .getfield 83, 53, 7, 24, 0), (53, .iload_n 1, 54, 0, 0, 0), (54, .iaload, 55, 0, 0, 0), (55, .imul, 56, 0, 0, 0),
  (56, .iadd, 57, 0, 0, 0), (57, .bipush 32, 59, 0, 0, 32), (59, .aload_n 0, 60, 0, 0, 0), (60, .getfield 86, 63, 7, 25, 0), (63, .iload_n 1, 64, 0, 0, 0), (64, .iaload, 65, 0, 0, 0),
  (65, .imul, 66, 0, 0, 0), (66, .iadd, 67, 0, 0, 0), (67, .aload_n 0, 68, 0, 0, 0), (68, .getfield 89, 71, 7, 26, 0), (71, .iload_n 1, 72, 0, 0, 0), (72, .baload, 73, 0, 0, 0),
  (73, .ifCond .eq 9, 76, 82, 0, 0), (76, .sipush 128, 79, 0, 0, 128), (79, .goto 4, 82, 83, 0, 0), (82, .iconst 0, 83, 0, 0, 0), (83, .iadd, 84, 0, 0, 0), (84, .aload_n 0, 85, 0, 0, 0),
  (85, .getfield 92, 88, 7, 27, 0), (88, .iload_n 1, 89, 0, 0, 0), (89, .baload, 90, 0, 0, 0), (90, .ifCond .eq 9, 93, 99, 0, 0), (93, .sipush 256, 96, 0, 0, 256), (96, .goto 4, 99, 100, 0, 0),
  (99, .iconst 0, 100, 0, 0, 0), (100, .iadd, 101, 0, 0, 0), (101, .aload_n 0, 102, 0, 0, 0), (102, .getfield 95, 105, 7, 28, 0), (105, .iload_n 1, 106, 0, 0, 0), (106, .baload, 107, 0, 0, 0),
  (107, .ifCond .eq 9, 110, 116, 0, 0), (110, .sipush 512, 113, 0, 0, 512), (113, .goto 4, 116, 117, 0, 0), (116, .iconst 0, 117, 0, 0, 0), (117, .iadd, 118, 0, 0, 0), (118, .ireturn, 119, 0, 0, 0)]
/-- 83: RingBridgesModel.at(I)I -/
def rb_c83 : List (Nat × rb_I) := [(0, .iload_n 1, 1, 0, 0, 0), (1, .invokestatic 248, 4, 45, 1, 0), (4, .ifCond .eq 12, 7, 16, 0, 0), (7, .aload_n 0, 8, 0, 0, 0), (8, .getfield 74, 11, 7, 21, 0), (11, .iload_n 1, 12, 0, 0, 0),
  (12, .iaload, 13, 0, 0, 0), (13, .ifCond .ne 7, 16, 20, 0, 0), (16, .iconst (-1), 17, 0, 0, (-1)), (17, .goto 9, 20, 26, 0, 0), (20, .aload_n 0, 21, 0, 0, 0), (21, .getfield 77, 24, 7, 22, 0),
  (24, .iload_n 1, 25, 0, 0, 0), (25, .iaload, 26, 0, 0, 0), (26, .ireturn, 27, 0, 0, 0)]
/-- 84: RingBridgesModel.monitor(I)I -/
def rb_c84 : List (Nat × rb_I) := [(0, .iload_n 1, 1, 0, 0, 0), (1, .invokestatic 248, 4, 45, 1, 0), (4, .ifCond .eq 12, 7, 16, 0, 0), (7, .aload_n 0, 8, 0, 0, 0), (8, .getfield 101, 11, 7, 30, 0), (11, .iload_n 1, 12, 0, 0, 0),
  (12, .iaload, 13, 0, 0, 0), (13, .goto 4, 16, 17, 0, 0), (16, .iconst (-1), 17, 0, 0, (-1)), (17, .ireturn, 18, 0, 0, 0)]
/-- 85: RingBridgesModel.node(III)I -/
def rb_c85 : List (Nat × rb_I) := [(0, .iload_n 1, 1, 0, 0, 0), (1, .invokestatic 248, 4, 45, 1, 0), (4, .ifCond .eq 12, 7, 16, 0, 0), (7, .iload_n 3, 8, 0, 0, 0), (8, .ifCond .lt 8, 11, 16, 0, 0), (11, .iload_n 3, 12, 0, 0, 0),
  (12, .iconst 2, 13, 0, 0, 2), (13, .if_icmp .le 5, 16, 18, 0, 0), (16, .iconst (-1), 17, 0, 0, (-1)), (17, .ireturn, 18, 0, 0, 0), (18, .aload_n 0, 19, 0, 0, 0), (19, .iload_n 1, 20, 0, 0, 0),
  (20, .iload_n 2, 21, 0, 0, 0), (21, .invokevirtual 210, 24, 48, 3, 0), (24, .istore 4, 26, 0, 0, 0), (26, .iload 4, 28, 0, 0, 0), (28, .ifCond .ge 5, 31, 33, 0, 0), (31, .iconst (-1), 32, 0, 0, (-1)),
  (32, .ireturn, 33, 0, 0, 0), (33, .iload_n 3, 34, 0, 0, 0), (34, .ifCond .ne 11, 37, 45, 0, 0), (37, .iload 4, 39, 0, 0, 0), (39, .invokestatic 177, 42, 44, 1, 0), (42, .goto 25, 45, 67, 0, 0),
  (45, .iload_n 3, 46, 0, 0, 0), (46, .iconst 1, 47, 0, 0, 1), (47, .if_icmp .ne 13, 50, 60, 0, 0), (50, .aload_n 0, 51, 0, 0, 0), (51, .getfield 23, 54, 7, 4, 0), (54, .iload 4, 56, 0, 0, 0),
  (56, .iaload, 57, 0, 0, 0), (57, .goto 10, 60, 67, 0, 0), (60, .aload_n 0, 61, 0, 0, 0), (61, .getfield 26, 64, 7, 5, 0), (64, .iload 4, 66, 0, 0, 0), (66, .iaload, 67, 0, 0, 0),
  (67, .ireturn, 68, 0, 0, 0)]
/-- 86: RingBridgesModel.count(II)I -/
def rb_c86 : List (Nat × rb_I) := [(0, .iload_n 1, 1, 0, 0, 0), (1, .invokestatic 248, 4, 45, 1, 0), (4, .ifCond .eq 12, 7, 16, 0, 0), (7, .iload_n 2, 8, 0, 0, 0), (8, .ifCond .lt 8, 11, 16, 0, 0), (11, .iload_n 2, 12, 0, 0, 0),
  (12, .iconst 2, 13, 0, 0, 2), (13, .if_icmp .le 7, 16, 20, 0, 0), (16, .iconst (-1), 17, 0, 0, (-1)), (17, .goto 13, 20, 30, 0, 0), (20, .aload_n 0, 21, 0, 0, 0), (21, .getfield 104, 24, 7, 31, 0),
  (24, .iconst 3, 25, 0, 0, 3), (25, .iload_n 1, 26, 0, 0, 0), (26, .imul, 27, 0, 0, 0), (27, .iload_n 2, 28, 0, 0, 0), (28, .iadd, 29, 0, 0, 0), (29, .iaload, 30, 0, 0, 0),
  (30, .ireturn, 31, 0, 0, 0)]
/-- 87: RingBridgesModel.connection(II)I -/
def rb_c87 : List (Nat × rb_I) := [(0, .iload_n 1, 1, 0, 0, 0), (1, .invokestatic 260, 4, 78, 1, 0), (4, .ifCond .eq 26, 7, 30, 0, 0), (7, .iload_n 2, 8, 0, 0, 0), (8, .ifCond .lt 22, 11, 30, 0, 0), (11, .iload_n 2, 12, 0, 0, 0),
  (12, .bipush 7, 14, 0, 0, 7), (14, .if_icmp .gt 16, 17, 30, 0, 0), (17, .iload_n 2, 18, 0, 0, 0), (18, .ifCond .eq 14, 21, 32, 0, 0), (21, .aload_n 0, 22, 0, 0, 0), (22, .getfield 116, 25, 7, 35, 0),
  (25, .iload_n 1, 26, 0, 0, 0), (26, .iaload, 27, 0, 0, 0), (27, .ifCond .ne 5, 30, 32, 0, 0), (30, .iconst (-1), 31, 0, 0, (-1)), (31, .ireturn, 32, 0, 0, 0), (32, .iload_n 2, 33, 0, 0, 0),
  (33, .tableswitch 92 0 6 #[43, 50, 57, 64, 71, 78, 85], 76, 5, 125, 0), (76, .aload_n 0, 77, 0, 0, 0), (77, .getfield 116, 80, 7, 35, 0), (80, .iload_n 1, 81, 0, 0, 0), (81, .iaload, 82, 0, 0, 0), (82, .ireturn, 83, 0, 0, 0),
  (83, .aload_n 0, 84, 0, 0, 0), (84, .getfield 137, 87, 7, 42, 0), (87, .iload_n 1, 88, 0, 0, 0), (88, .iaload, 89, 0, 0, 0), (89, .ireturn, 90, 0, 0, 0), (90, .aload_n 0, 91, 0, 0, 0),
  (91, .getfield 140, 94, 7, 43, 0), (94, .iload_n 1, 95, 0, 0, 0), (95, .iaload, 96, 0, 0, 0), (96, .ireturn, 97, 0, 0, 0), (97, .aload_n 0, 98, 0, 0, 0), (98, .getfield 143, 101, 7, 44, 0),
  (101, .iload_n 1, 102, 0, 0, 0), (102, .iaload, 103, 0, 0, 0), (103, .ireturn, 104, 0, 0, 0), (104, .aload_n 0, 105, 0, 0, 0), (105, .getfield 158, 108, 7, 49, 0), (108, .iload_n 1, 109, 0, 0, 0),
  (109, .iaload, 110, 0, 0, 0), (110, .ireturn, 111, 0, 0, 0), (111, .aload_n 0, 112, 0, 0, 0), (112, .getfield 161, 115, 7, 50, 0), (115, .iload_n 1, 116, 0, 0, 0), (116, .iaload, 117, 0, 0, 0),
  (117, .ireturn, 118, 0, 0, 0), (118, .aload_n 0, 119, 0, 0, 0), (119, .getfield 155, 122, 7, 48, 0), (122, .iload_n 1, 123, 0, 0, 0), (123, .iaload, 124, 0, 0, 0), (124, .ireturn, 125, 0, 0, 0),
  (125, .aload_n 0, 126, 0, 0, 0), (126, .getfield 152, 129, 7, 47, 0), (129, .iload_n 1, 130, 0, 0, 0), (130, .iaload, 131, 0, 0, 0), (131, .aload_n 0, 132, 0, 0, 0), (132, .getfield 149, 135, 7, 46, 0),
  (135, .iload_n 1, 136, 0, 0, 0), (136, .baload, 137, 0, 0, 0), (137, .ifCond .eq 8, 140, 145, 0, 0), (140, .bipush 100, 142, 0, 0, 100), (142, .goto 4, 145, 146, 0, 0), (145, .iconst 0, 146, 0, 0, 0),
  (146, .iadd, 147, 0, 0, 0), (147, .ireturn, 148, 0, 0, 0)]
/-- 88: RingBridges$ByteRow.<init>(I)V -/
def rb_c88 : List (Nat × rb_I) := [(0, .aload_n 0, 1, 0, 0, 0), (1, .invokespecial 1, 4, 999, 1, 0), (4, .aload_n 0, 5, 0, 0, 0), (5, .iload_n 1, 6, 0, 0, 0), (6, .newarray .int, 8, 0, 0, 0), (8, .putfield 7, 11, 6, 0, 0),
  (11, .aload_n 0, 12, 0, 0, 0), (12, .iload_n 1, 13, 0, 0, 0), (13, .iconst 1, 14, 0, 0, 1), (14, .isub, 15, 0, 0, 0), (15, .putfield 13, 18, 6, 1, 0), (18, .return_, 19, 0, 0, 0)]
/-- 89: RingBridges$ByteRow.clear()V -/
def rb_c89 : List (Nat × rb_I) := [(0, .aload_n 0, 1, 0, 0, 0), (1, .iconst 0, 2, 0, 0, 0), (2, .putfield 17, 5, 6, 2, 0), (5, .aload_n 0, 6, 0, 0, 0), (6, .iconst 0, 7, 0, 0, 0), (7, .putfield 20, 10, 6, 3, 0),
  (10, .return_, 11, 0, 0, 0)]
/-- 90: RingBridges$ByteRow.isFull()Z -/
def rb_c90 : List (Nat × rb_I) := [(0, .aload_n 0, 1, 0, 0, 0), (1, .getfield 20, 4, 6, 3, 0), (4, .aload_n 0, 5, 0, 0, 0), (5, .getfield 7, 8, 6, 0, 0), (8, .arraylength, 9, 0, 0, 0), (9, .if_icmp .lt 7, 12, 16, 0, 0),
  (12, .iconst 1, 13, 0, 0, 1), (13, .goto 4, 16, 17, 0, 0), (16, .iconst 0, 17, 0, 0, 0), (17, .ireturn, 18, 0, 0, 0)]
/-- 91: RingBridges$ByteRow.add(I)V -/
def rb_c91 : List (Nat × rb_I) := [(0, .aload_n 0, 1, 0, 0, 0), (1, .invokevirtual 23, 4, 90, 1, 0), (4, .ifCond .ne 33, 7, 37, 0, 0), (7, .aload_n 0, 8, 0, 0, 0), (8, .getfield 7, 11, 6, 0, 0), (11, .aload_n 0, 12, 0, 0, 0),
  (12, .getfield 17, 15, 6, 2, 0), (15, .aload_n 0, 16, 0, 0, 0), (16, .getfield 20, 19, 6, 3, 0), (19, .iadd, 20, 0, 0, 0), (20, .aload_n 0, 21, 0, 0, 0), (21, .getfield 13, 24, 6, 1, 0),
  (24, .iand, 25, 0, 0, 0), (25, .iload_n 1, 26, 0, 0, 0), (26, .iastore, 27, 0, 0, 0), (27, .aload_n 0, 28, 0, 0, 0), (28, .dup, 29, 0, 0, 0), (29, .getfield 20, 32, 6, 3, 0),
  (32, .iconst 1, 33, 0, 0, 1), (33, .iadd, 34, 0, 0, 0), (34, .putfield 20, 37, 6, 3, 0), (37, .return_, 38, 0, 0, 0)]
/-- 92: RingBridges$ByteRow.get(I)I -/
def rb_c92 : List (Nat × rb_I) := [(0, .iload_n 1, 1, 0, 0, 0), (1, .ifCond .lt 30, 4, 31, 0, 0), (4, .iload_n 1, 5, 0, 0, 0), (5, .aload_n 0, 6, 0, 0, 0), (6, .getfield 20, 9, 6, 3, 0), (9, .if_icmp .ge 22, 12, 31, 0, 0),
  (12, .aload_n 0, 13, 0, 0, 0), (13, .getfield 7, 16, 6, 0, 0), (16, .aload_n 0, 17, 0, 0, 0), (17, .getfield 17, 20, 6, 2, 0), (20, .iload_n 1, 21, 0, 0, 0), (21, .iadd, 22, 0, 0, 0),
  (22, .aload_n 0, 23, 0, 0, 0), (23, .getfield 13, 26, 6, 1, 0), (26, .iand, 27, 0, 0, 0), (27, .iaload, 28, 0, 0, 0), (28, .goto 4, 31, 32, 0, 0), (31, .iconst (-1), 32, 0, 0, (-1)),
  (32, .ireturn, 33, 0, 0, 0)]
/-- 93: RingBridges$ByteRow.dropFirst(I)V -/
def rb_c93 : List (Nat × rb_I) := [(0, .iload_n 1, 1, 0, 0, 0), (1, .ifCond .lt 36, 4, 37, 0, 0), (4, .iload_n 1, 5, 0, 0, 0), (5, .aload_n 0, 6, 0, 0, 0), (6, .getfield 20, 9, 6, 3, 0), (9, .if_icmp .gt 28, 12, 37, 0, 0),
  (12, .aload_n 0, 13, 0, 0, 0), (13, .aload_n 0, 14, 0, 0, 0), (14, .getfield 17, 17, 6, 2, 0), (17, .iload_n 1, 18, 0, 0, 0), (18, .iadd, 19, 0, 0, 0), (19, .aload_n 0, 20, 0, 0, 0),
  (20, .getfield 13, 23, 6, 1, 0), (23, .iand, 24, 0, 0, 0), (24, .putfield 17, 27, 6, 2, 0), (27, .aload_n 0, 28, 0, 0, 0), (28, .dup, 29, 0, 0, 0), (29, .getfield 20, 32, 6, 3, 0),
  (32, .iload_n 1, 33, 0, 0, 0), (33, .isub, 34, 0, 0, 0), (34, .putfield 20, 37, 6, 3, 0), (37, .return_, 38, 0, 0, 0)]
/-- 94: RingBridges$Frame.<init>()V -/
def rb_c94 : List (Nat × rb_I) := [(0, .aload_n 0, 1, 0, 0, 0), (1, .invokespecial 3, 4, 999, 1, 0), (4, .return_, 5, 0, 0, 0)]
/-- 95: RingBridges$Frame.begin(IIII)V -/
def rb_c95 : List (Nat × rb_I) := [(0, .aload_n 0, 1, 0, 0, 0), (1, .iload_n 1, 2, 0, 0, 0), (2, .putfield 9, 5, 3, 0, 0), (5, .aload_n 0, 6, 0, 0, 0), (6, .iload_n 2, 7, 0, 0, 0), (7, .putfield 15, 10, 3, 1, 0),
  (10, .aload_n 0, 11, 0, 0, 0), (11, .iload_n 3, 12, 0, 0, 0), (12, .putfield 18, 15, 3, 2, 0), (15, .aload_n 0, 16, 0, 0, 0), (16, .iload 4, 18, 0, 0, 0), (18, .putfield 21, 21, 3, 3, 0),
  (21, .aload_n 0, 22, 0, 0, 0), (22, .iconst 0, 23, 0, 0, 0), (23, .putfield 24, 26, 3, 4, 0), (26, .aload_n 0, 27, 0, 0, 0), (27, .iconst 0, 28, 0, 0, 0), (28, .putfield 27, 31, 3, 5, 0),
  (31, .return_, 32, 0, 0, 0)]
/-- 96: RingBridges$Frame.belongTo(LRingBridges$Link;I)V -/
def rb_c96 : List (Nat × rb_I) := [(0, .aload_n 0, 1, 0, 0, 0), (1, .aload_n 1, 2, 0, 0, 0), (2, .getfield 30, 5, 5, 0, 0), (5, .putfield 35, 8, 3, 7, 0), (8, .aload_n 0, 9, 0, 0, 0), (9, .aload_n 1, 10, 0, 0, 0),
  (10, .getfield 38, 13, 5, 4, 0), (13, .putfield 41, 16, 3, 8, 0), (16, .aload_n 0, 17, 0, 0, 0), (17, .iload_n 2, 18, 0, 0, 0), (18, .putfield 42, 21, 3, 9, 0), (21, .return_, 22, 0, 0, 0)]
/-- 97: RingBridges$Frame.copyFrom(LRingBridges$Frame;)V -/
def rb_c97 : List (Nat × rb_I) := [(0, .aload_n 0, 1, 0, 0, 0), (1, .aload_n 1, 2, 0, 0, 0), (2, .getfield 9, 5, 3, 0, 0), (5, .putfield 9, 8, 3, 0, 0), (8, .aload_n 0, 9, 0, 0, 0), (9, .aload_n 1, 10, 0, 0, 0),
  (10, .getfield 15, 13, 3, 1, 0), (13, .putfield 15, 16, 3, 1, 0), (16, .aload_n 0, 17, 0, 0, 0), (17, .aload_n 1, 18, 0, 0, 0), (18, .getfield 18, 21, 3, 2, 0), (21, .putfield 18, 24, 3, 2, 0),
  (24, .aload_n 0, 25, 0, 0, 0), (25, .aload_n 1, 26, 0, 0, 0), (26, .getfield 21, 29, 3, 3, 0), (29, .putfield 21, 32, 3, 3, 0), (32, .aload_n 0, 33, 0, 0, 0), (33, .aload_n 1, 34, 0, 0, 0),
  (34, .getfield 24, 37, 3, 4, 0), (37, .putfield 24, 40, 3, 4, 0), (40, .aload_n 0, 41, 0, 0, 0), (41, .aload_n 1, 42, 0, 0, 0), (42, .getfield 27, 45, 3, 5, 0), (45, .putfield 27, 48, 3, 5, 0),
  (48, .aload_n 0, 49, 0, 0, 0), (49, .aload_n 1, 50, 0, 0, 0), (50, .getfield 43, 53, 3, 6, 0), (53, .putfield 43, 56, 3, 6, 0), (56, .aload_n 0, 57, 0, 0, 0), (57, .aload_n 1, 58, 0, 0, 0),
  (58, .getfield 35, 61, 3, 7, 0), (61, .putfield 35, 64, 3, 7, 0), (64, .aload_n 0, 65, 0, 0, 0), (65, .aload_n 1, 66, 0, 0, 0), (66, .getfield 41, 69, 3, 8, 0), (69, .putfield 41, 72, 3, 8, 0),
  (72, .aload_n 0, 73, 0, 0, 0), (73, .aload_n 1, 74, 0, 0, 0), (74, .getfield 42, 77, 3, 9, 0), (77, .putfield 42, 80, 3, 9, 0), (80, .aload_n 0, 81, 0, 0, 0), (81, .aload_n 1, 82, 0, 0, 0),
  (82, .getfield 46, 85, 3, 10, 0), (85, .putfield 46, 88, 3, 10, 0), (88, .return_, 89, 0, 0, 0)]
/-- 98: RingBridges$Link.<init>(I)V -/
def rb_c98 : List (Nat × rb_I) := [(0, .aload_n 0, 1, 0, 0, 0), (1, .invokespecial 3, 4, 999, 1, 0), (4, .aload_n 0, 5, 0, 0, 0), (5, .iload_n 1, 6, 0, 0, 0), (6, .putfield 9, 9, 5, 0, 0), (9, .aload_n 0, 10, 0, 0, 0),
  (10, .new 15, 13, 6, 0, 0), (13, .dup, 14, 0, 0, 0), (14, .bipush 8, 16, 0, 0, 8), (16, .invokespecial 17, 19, 88, 2, 0), (19, .putfield 20, 22, 5, 1, 0), (22, .aload_n 0, 23, 0, 0, 0),
  (23, .new 15, 26, 6, 0, 0), (26, .dup, 27, 0, 0, 0), (27, .iconst 4, 28, 0, 0, 4), (28, .invokespecial 17, 31, 88, 2, 0), (31, .putfield 24, 34, 5, 2, 0), (34, .aload_n 0, 35, 0, 0, 0),
  (35, .iconst 0, 36, 0, 0, 0), (36, .putfield 27, 39, 5, 3, 0), (39, .return_, 40, 0, 0, 0)]
/-- 99: RingBridges$Link.begin(IIII)V -/
def rb_c99 : List (Nat × rb_I) := [(0, .aload_n 0, 1, 0, 0, 0), (1, .iconst 1, 2, 0, 0, 1), (2, .putfield 27, 5, 5, 3, 0), (5, .aload_n 0, 6, 0, 0, 0), (6, .dup, 7, 0, 0, 0), (7, .getfield 30, 10, 5, 4, 0),
  (10, .iconst 1, 11, 0, 0, 1), (11, .iadd, 12, 0, 0, 0), (12, .putfield 30, 15, 5, 4, 0), (15, .aload_n 0, 16, 0, 0, 0), (16, .iload_n 1, 17, 0, 0, 0), (17, .putfield 33, 20, 5, 5, 0),
  (20, .aload_n 0, 21, 0, 0, 0), (21, .iload_n 2, 22, 0, 0, 0), (22, .putfield 36, 25, 5, 6, 0), (25, .aload_n 0, 26, 0, 0, 0), (26, .iload_n 3, 27, 0, 0, 0), (27, .putfield 39, 30, 5, 7, 0),
  (30, .aload_n 0, 31, 0, 0, 0), (31, .iload 4, 33, 0, 0, 0), (33, .putfield 42, 36, 5, 8, 0), (36, .aload_n 0, 37, 0, 0, 0), (37, .getfield 20, 40, 5, 1, 0), (40, .invokevirtual 45, 43, 89, 1, 0),
  (43, .aload_n 0, 44, 0, 0, 0), (44, .getfield 24, 47, 5, 2, 0), (47, .invokevirtual 45, 50, 89, 1, 0), (50, .aload_n 0, 51, 0, 0, 0), (51, .iconst 0, 52, 0, 0, 0), (52, .putfield 48, 55, 5, 9, 0),
  (55, .aload_n 0, 56, 0, 0, 0), (56, .iconst 0, 57, 0, 0, 0), (57, .putfield 51, 60, 5, 10, 0), (60, .aload_n 0, 61, 0, 0, 0), (61, .iconst 0, 62, 0, 0, 0), (62, .putfield 54, 65, 5, 11, 0),
  (65, .aload_n 0, 66, 0, 0, 0), (66, .iconst 0, 67, 0, 0, 0), (67, .putfield 57, 70, 5, 12, 0), (70, .aload_n 0, 71, 0, 0, 0), (71, .iconst 0, 72, 0, 0, 0), (72, .putfield 60, 75, 5, 13, 0),
  (75, .aload_n 0, 76, 0, 0, 0), (76, .iconst 0, 77, 0, 0, 0), (77, .putfield 63, 80, 5, 14, 0), (80, .aload_n 0, 81, 0, 0, 0), (81, .iconst 0, 82, 0, 0, 0), (82, .putfield 67, 85, 5, 15, 0),
  (85, .aload_n 0, 86, 0, 0, 0), (86, .iconst 0, 87, 0, 0, 0), (87, .putfield 70, 90, 5, 16, 0), (90, .return_, 91, 0, 0, 0)]
/-- 100: RingBridges$Link.acceptData(II)I -/
def rb_c100 : List (Nat × rb_I) := [(0, .aload_n 0, 1, 0, 0, 0), (1, .getfield 60, 4, 5, 13, 0), (4, .bipush 7, 6, 0, 0, 7), (6, .iand, 7, 0, 0, 0), (7, .istore_n 3, 8, 0, 0, 0), (8, .iload_n 1, 9, 0, 0, 0),
  (9, .iload_n 3, 10, 0, 0, 0), (10, .if_icmp .ne 46, 13, 56, 0, 0), (13, .aload_n 0, 14, 0, 0, 0), (14, .getfield 24, 17, 5, 2, 0), (17, .invokevirtual 73, 20, 90, 1, 0), (20, .ifCond .eq 11, 23, 31, 0, 0),
  (23, .aload_n 0, 24, 0, 0, 0), (24, .iconst 1, 25, 0, 0, 1), (25, .putfield 70, 28, 5, 16, 0), (28, .bipush 6, 30, 0, 0, 6), (30, .ireturn, 31, 0, 0, 0), (31, .aload_n 0, 32, 0, 0, 0),
  (32, .getfield 24, 35, 5, 2, 0), (35, .iload_n 2, 36, 0, 0, 0), (36, .invokevirtual 77, 39, 91, 2, 0), (39, .aload_n 0, 40, 0, 0, 0), (40, .dup, 41, 0, 0, 0), (41, .getfield 60, 44, 5, 13, 0),
  (44, .iconst 1, 45, 0, 0, 1), (45, .iadd, 46, 0, 0, 0), (46, .putfield 60, 49, 5, 13, 0), (49, .aload_n 0, 50, 0, 0, 0), (50, .iconst 0, 51, 0, 0, 0), (51, .putfield 67, 54, 5, 15, 0),
  (54, .iconst 4, 55, 0, 0, 4), (55, .ireturn, 56, 0, 0, 0), (56, .iload_n 3, 57, 0, 0, 0), (57, .iload_n 1, 58, 0, 0, 0), (58, .isub, 59, 0, 0, 0), (59, .bipush 7, 61, 0, 0, 7),
  (61, .iand, 62, 0, 0, 0), (62, .iconst 4, 63, 0, 0, 4), (63, .if_icmp .gt 5, 66, 68, 0, 0), (66, .iconst 4, 67, 0, 0, 4), (67, .ireturn, 68, 0, 0, 0), (68, .aload_n 0, 69, 0, 0, 0),
  (69, .getfield 67, 72, 5, 15, 0), (72, .ifCond .eq 5, 75, 77, 0, 0), (75, .iconst 0, 76, 0, 0, 0), (76, .ireturn, 77, 0, 0, 0), (77, .aload_n 0, 78, 0, 0, 0), (78, .iconst 1, 79, 0, 0, 1),
  (79, .putfield 67, 82, 5, 15, 0), (82, .iconst 5, 83, 0, 0, 5), (83, .ireturn, 84, 0, 0, 0)]
/-- 101: RingBridges$Link.acceptAnswer(II)V -/
def rb_c101 : List (Nat × rb_I) := [(0, .iload_n 2, 1, 0, 0, 0), (1, .aload_n 0, 2, 0, 0, 0), (2, .getfield 48, 5, 5, 9, 0), (5, .isub, 6, 0, 0, 0), (6, .bipush 7, 8, 0, 0, 7), (8, .iand, 9, 0, 0, 0),
  (9, .istore_n 3, 10, 0, 0, 0), (10, .iload_n 3, 11, 0, 0, 0), (11, .aload_n 0, 12, 0, 0, 0), (12, .getfield 51, 15, 5, 10, 0), (15, .if_icmp .le 4, 18, 19, 0, 0), (18, .return_, 19, 0, 0, 0),
  (19, .aload_n 0, 20, 0, 0, 0), (20, .getfield 20, 23, 5, 1, 0), (23, .iload_n 3, 24, 0, 0, 0), (24, .invokevirtual 80, 27, 93, 2, 0), (27, .aload_n 0, 28, 0, 0, 0), (28, .dup, 29, 0, 0, 0),
  (29, .getfield 48, 32, 5, 9, 0), (32, .iload_n 3, 33, 0, 0, 0), (33, .iadd, 34, 0, 0, 0), (34, .putfield 48, 37, 5, 9, 0), (37, .aload_n 0, 38, 0, 0, 0), (38, .dup, 39, 0, 0, 0),
  (39, .getfield 51, 42, 5, 10, 0), (42, .iload_n 3, 43, 0, 0, 0), (43, .isub, 44, 0, 0, 0), (44, .putfield 51, 47, 5, 10, 0), (47, .iload_n 3, 48, 0, 0, 0), (48, .ifCond .eq 13, 51, 61, 0, 0),
  (51, .aload_n 0, 52, 0, 0, 0), (52, .iconst 0, 53, 0, 0, 0), (53, .putfield 54, 56, 5, 11, 0), (56, .aload_n 0, 57, 0, 0, 0), (57, .iconst 0, 58, 0, 0, 0), (58, .putfield 57, 61, 5, 12, 0),
  (61, .aload_n 0, 62, 0, 0, 0), (62, .iload_n 1, 63, 0, 0, 0), (63, .bipush 6, 65, 0, 0, 6), (65, .if_icmp .ne 7, 68, 72, 0, 0), (68, .iconst 1, 69, 0, 0, 1), (69, .goto 4, 72, 73, 0, 0),
  (72, .iconst 0, 73, 0, 0, 0), (73, .putfield 63, 76, 5, 14, 0), (76, .iload_n 1, 77, 0, 0, 0), (77, .iconst 5, 78, 0, 0, 5), (78, .if_icmp .ne 11, 81, 89, 0, 0), (81, .aload_n 0, 82, 0, 0, 0),
  (82, .iconst 0, 83, 0, 0, 0), (83, .putfield 51, 86, 5, 10, 0), (86, .goto 14, 89, 100, 0, 0), (89, .iload_n 1, 90, 0, 0, 0), (90, .bipush 6, 92, 0, 0, 6), (92, .if_icmp .ne 8, 95, 100, 0, 0),
  (95, .aload_n 0, 96, 0, 0, 0), (96, .iconst 0, 97, 0, 0, 0), (97, .putfield 54, 100, 5, 11, 0), (100, .return_, 101, 0, 0, 0)]
/-- 102: RingBridges$Link.runTimer()V -/
def rb_c102 : List (Nat × rb_I) := [(0, .aload_n 0, 1, 0, 0, 0), (1, .getfield 27, 4, 5, 3, 0), (4, .iconst 1, 5, 0, 0, 1), (5, .if_icmp .eq 4, 8, 9, 0, 0), (8, .return_, 9, 0, 0, 0), (9, .aload_n 0, 10, 0, 0, 0),
  (10, .aload_n 0, 11, 0, 0, 0), (11, .getfield 51, 14, 5, 10, 0), (14, .ifCond .ne 10, 17, 24, 0, 0), (17, .aload_n 0, 18, 0, 0, 0), (18, .getfield 63, 21, 5, 14, 0), (21, .ifCond .eq 12, 24, 33, 0, 0),
  (24, .aload_n 0, 25, 0, 0, 0), (25, .getfield 54, 28, 5, 11, 0), (28, .iconst 1, 29, 0, 0, 1), (29, .iadd, 30, 0, 0, 0), (30, .goto 4, 33, 34, 0, 0), (33, .iconst 0, 34, 0, 0, 0),
  (34, .putfield 54, 37, 5, 11, 0), (37, .aload_n 0, 38, 0, 0, 0), (38, .getfield 54, 41, 5, 11, 0), (41, .bipush 60, 43, 0, 0, 60), (43, .if_icmp .ge 4, 46, 47, 0, 0), (46, .return_, 47, 0, 0, 0),
  (47, .aload_n 0, 48, 0, 0, 0), (48, .dup, 49, 0, 0, 0), (49, .getfield 57, 52, 5, 12, 0), (52, .iconst 1, 53, 0, 0, 1), (53, .iadd, 54, 0, 0, 0), (54, .putfield 57, 57, 5, 12, 0),
  (57, .aload_n 0, 58, 0, 0, 0), (58, .iconst 0, 59, 0, 0, 0), (59, .putfield 54, 62, 5, 11, 0), (62, .aload_n 0, 63, 0, 0, 0), (63, .iconst 0, 64, 0, 0, 0), (64, .putfield 51, 67, 5, 10, 0),
  (67, .aload_n 0, 68, 0, 0, 0), (68, .iconst 0, 69, 0, 0, 0), (69, .putfield 63, 72, 5, 14, 0), (72, .aload_n 0, 73, 0, 0, 0), (73, .getfield 57, 76, 5, 12, 0), (76, .iconst 4, 77, 0, 0, 4),
  (77, .if_icmp .lt 8, 80, 85, 0, 0), (80, .aload_n 0, 81, 0, 0, 0), (81, .iconst 2, 82, 0, 0, 2), (82, .putfield 27, 85, 5, 3, 0), (85, .return_, 86, 0, 0, 0)]
/-- 103: RingBridges$Node.<init>()V -/
def rb_c103 : List (Nat × rb_I) := [(0, .aload_n 0, 1, 0, 0, 0), (1, .invokespecial 3, 4, 999, 1, 0), (4, .aload_n 0, 5, 0, 0, 0), (5, .iconst 4, 6, 0, 0, 4), (6, .anewarray 9, 9, 4, 0, 0), (9, .putfield 11, 12, 2, 0, 0),
  (12, .iconst 0, 13, 0, 0, 0), (13, .istore_n 1, 14, 0, 0, 0), (14, .iload_n 1, 15, 0, 0, 0), (15, .iconst 4, 16, 0, 0, 4), (16, .if_icmp .ge 22, 19, 38, 0, 0), (19, .aload_n 0, 20, 0, 0, 0),
  (20, .getfield 11, 23, 2, 0, 0), (23, .iload_n 1, 24, 0, 0, 0), (24, .new 9, 27, 3, 0, 0), (27, .dup, 28, 0, 0, 0), (28, .invokespecial 17, 31, 94, 1, 1), (31, .aastore, 32, 0, 0, 0),
  (32, .iinc 1 1, 35, 0, 0, 1), (35, .goto (-21), 38, 14, 0, 0), (38, .aload_n 0, 39, 0, 0, 0), (39, .iconst 3, 40, 0, 0, 3), (40, .newarray .int, 42, 0, 0, 0), (42, .putfield 18, 45, 2, 1, 0),
  (45, .aload_n 0, 46, 0, 0, 0), (46, .iconst 3, 47, 0, 0, 3), (47, .newarray .int, 49, 0, 0, 0), (49, .putfield 22, 52, 2, 2, 0), (52, .return_, 53, 0, 0, 0)]
/-- 104: RingBridges$Node.begin(I)V -/
def rb_c104 : List (Nat × rb_I) := [(0, .aload_n 0, 1, 0, 0, 0), (1, .iload_n 1, 2, 0, 0, 0), (2, .putfield 25, 5, 2, 3, 0), (5, .aload_n 0, 6, 0, 0, 0), (6, .iconst 0, 7, 0, 0, 0), (7, .putfield 29, 10, 2, 4, 0),
  (10, .aload_n 0, 11, 0, 0, 0), (11, .iconst 0, 12, 0, 0, 0), (12, .putfield 32, 15, 2, 5, 0), (15, .aload_n 0, 16, 0, 0, 0), (16, .iconst 0, 17, 0, 0, 0), (17, .putfield 35, 20, 2, 6, 0),
  (20, .return_, 21, 0, 0, 0)]
/-- 105: RingBridges$Node.isFull()Z -/
def rb_c105 : List (Nat × rb_I) := [(0, .aload_n 0, 1, 0, 0, 0), (1, .getfield 32, 4, 2, 5, 0), (4, .iconst 4, 5, 0, 0, 4), (5, .if_icmp .lt 7, 8, 12, 0, 0), (8, .iconst 1, 9, 0, 0, 1), (9, .goto 4, 12, 13, 0, 0),
  (12, .iconst 0, 13, 0, 0, 0), (13, .ireturn, 14, 0, 0, 0)]
/-- 106: RingBridges$Node.addFrame()LRingBridges$Frame; -/
def rb_c106 : List (Nat × rb_I) := [(0, .aload_n 0, 1, 0, 0, 0), (1, .getfield 32, 4, 2, 5, 0), (4, .iconst 4, 5, 0, 0, 4), (5, .if_icmp .lt 5, 8, 10, 0, 0), (8, .aconst_null, 9, 0, 0, 0), (9, .areturn, 10, 0, 0, 0),
  (10, .aload_n 0, 11, 0, 0, 0), (11, .getfield 11, 14, 2, 0, 0), (14, .aload_n 0, 15, 0, 0, 0), (15, .getfield 29, 18, 2, 4, 0), (18, .aload_n 0, 19, 0, 0, 0), (19, .getfield 32, 22, 2, 5, 0),
  (22, .iadd, 23, 0, 0, 0), (23, .iconst 3, 24, 0, 0, 3), (24, .iand, 25, 0, 0, 0), (25, .aaload, 26, 0, 0, 0), (26, .astore_n 1, 27, 0, 0, 0), (27, .aload_n 0, 28, 0, 0, 0),
  (28, .dup, 29, 0, 0, 0), (29, .getfield 32, 32, 2, 5, 0), (32, .iconst 1, 33, 0, 0, 1), (33, .iadd, 34, 0, 0, 0), (34, .putfield 32, 37, 2, 5, 0), (37, .aload_n 1, 38, 0, 0, 0),
  (38, .areturn, 39, 0, 0, 0)]
/-- 107: RingBridges$Node.firstPriority()I -/
def rb_c107 : List (Nat × rb_I) := [(0, .aload_n 0, 1, 0, 0, 0), (1, .getfield 11, 4, 2, 0, 0), (4, .aload_n 0, 5, 0, 0, 0), (5, .getfield 29, 8, 2, 4, 0), (8, .iconst 3, 9, 0, 0, 3), (9, .iand, 10, 0, 0, 0),
  (10, .aaload, 11, 0, 0, 0), (11, .getfield 38, 14, 3, 1, 0), (14, .ireturn, 15, 0, 0, 0)]
/-- 108: RingBridges$Node.moveFirstTo(LRingBridges$Frame;)V -/
def rb_c108 : List (Nat × rb_I) := [(0, .aload_n 1, 1, 0, 0, 0), (1, .aload_n 0, 2, 0, 0, 0), (2, .getfield 11, 5, 2, 0, 0), (5, .aload_n 0, 6, 0, 0, 0), (6, .getfield 29, 9, 2, 4, 0), (9, .iconst 3, 10, 0, 0, 3),
  (10, .iand, 11, 0, 0, 0), (11, .aaload, 12, 0, 0, 0), (12, .invokevirtual 41, 15, 97, 2, 0), (15, .aload_n 0, 16, 0, 0, 0), (16, .aload_n 0, 17, 0, 0, 0), (17, .getfield 29, 20, 2, 4, 0),
  (20, .iconst 1, 21, 0, 0, 1), (21, .iadd, 22, 0, 0, 0), (22, .iconst 3, 23, 0, 0, 3), (23, .iand, 24, 0, 0, 0), (24, .putfield 29, 27, 2, 4, 0), (27, .aload_n 0, 28, 0, 0, 0),
  (28, .dup, 29, 0, 0, 0), (29, .getfield 32, 32, 2, 5, 0), (32, .iconst 1, 33, 0, 0, 1), (33, .isub, 34, 0, 0, 0), (34, .putfield 32, 37, 2, 5, 0), (37, .return_, 38, 0, 0, 0)]
/-- 109: RingBridges$Node.push(II)V -/
def rb_c109 : List (Nat × rb_I) := [(0, .aload_n 0, 1, 0, 0, 0), (1, .getfield 35, 4, 2, 6, 0), (4, .ifCond .lt 41, 7, 45, 0, 0), (7, .aload_n 0, 8, 0, 0, 0), (8, .getfield 35, 11, 2, 6, 0), (11, .iconst 3, 12, 0, 0, 3),
  (12, .if_icmp .ge 33, 15, 45, 0, 0), (15, .aload_n 0, 16, 0, 0, 0), (16, .getfield 18, 19, 2, 1, 0), (19, .aload_n 0, 20, 0, 0, 0), (20, .getfield 35, 23, 2, 6, 0), (23, .iload_n 1, 24, 0, 0, 0),
  (24, .iastore, 25, 0, 0, 0), (25, .aload_n 0, 26, 0, 0, 0), (26, .getfield 22, 29, 2, 2, 0), (29, .aload_n 0, 30, 0, 0, 0), (30, .getfield 35, 33, 2, 6, 0), (33, .iload_n 2, 34, 0, 0, 0),
  (34, .iastore, 35, 0, 0, 0), (35, .aload_n 0, 36, 0, 0, 0), (36, .dup, 37, 0, 0, 0), (37, .getfield 35, 40, 2, 6, 0), (40, .iconst 1, 41, 0, 0, 1), (41, .iadd, 42, 0, 0, 0),
  (42, .putfield 35, 45, 2, 6, 0), (45, .return_, 46, 0, 0, 0)]
/-- 110: RingBridges$Node.topUpper()I -/
def rb_c110 : List (Nat × rb_I) := [(0, .aload_n 0, 1, 0, 0, 0), (1, .getfield 35, 4, 2, 6, 0), (4, .ifCond .le 25, 7, 29, 0, 0), (7, .aload_n 0, 8, 0, 0, 0), (8, .getfield 35, 11, 2, 6, 0), (11, .iconst 3, 12, 0, 0, 3),
  (12, .if_icmp .gt 17, 15, 29, 0, 0), (15, .aload_n 0, 16, 0, 0, 0), (16, .getfield 22, 19, 2, 2, 0), (19, .aload_n 0, 20, 0, 0, 0), (20, .getfield 35, 23, 2, 6, 0), (23, .iconst 1, 24, 0, 0, 1),
  (24, .isub, 25, 0, 0, 0), (25, .iaload, 26, 0, 0, 0), (26, .goto 4, 29, 30, 0, 0), (29, .iconst (-1), 30, 0, 0, (-1)), (30, .ireturn, 31, 0, 0, 0)]
/-- 111: RingBridges$Node.lowerToken(LRingBridges$Signal;)V -/
def rb_c111 : List (Nat × rb_I) := [(0, .aload_n 0, 1, 0, 0, 0), (1, .getfield 35, 4, 2, 6, 0), (4, .ifCond .le 11, 7, 15, 0, 0), (7, .aload_n 0, 8, 0, 0, 0), (8, .getfield 35, 11, 2, 6, 0), (11, .iconst 3, 12, 0, 0, 3),
  (12, .if_icmp .le 4, 15, 16, 0, 0), (15, .return_, 16, 0, 0, 0), (16, .aload_n 0, 17, 0, 0, 0), (17, .getfield 18, 20, 2, 1, 0), (20, .aload_n 0, 21, 0, 0, 0), (21, .getfield 35, 24, 2, 6, 0),
  (24, .iconst 1, 25, 0, 0, 1), (25, .isub, 26, 0, 0, 0), (26, .iaload, 27, 0, 0, 0), (27, .istore_n 2, 28, 0, 0, 0), (28, .aload_n 1, 29, 0, 0, 0), (29, .getfield 45, 32, 4, 3, 0),
  (32, .iload_n 2, 33, 0, 0, 0), (33, .if_icmp .le 34, 36, 67, 0, 0), (36, .aload_n 0, 37, 0, 0, 0), (37, .getfield 22, 40, 2, 2, 0), (40, .aload_n 0, 41, 0, 0, 0), (41, .getfield 35, 44, 2, 6, 0),
  (44, .iconst 1, 45, 0, 0, 1), (45, .isub, 46, 0, 0, 0), (46, .aload_n 1, 47, 0, 0, 0), (47, .getfield 45, 50, 4, 3, 0), (50, .iastore, 51, 0, 0, 0), (51, .aload_n 1, 52, 0, 0, 0),
  (52, .aload_n 1, 53, 0, 0, 0), (53, .getfield 45, 56, 4, 3, 0), (56, .putfield 50, 59, 4, 2, 0), (59, .aload_n 1, 60, 0, 0, 0), (60, .iconst 0, 61, 0, 0, 0), (61, .putfield 45, 64, 4, 3, 0),
  (64, .goto 18, 67, 82, 0, 0), (67, .aload_n 0, 68, 0, 0, 0), (68, .dup, 69, 0, 0, 0), (69, .getfield 35, 72, 2, 6, 0), (72, .iconst 1, 73, 0, 0, 1), (73, .isub, 74, 0, 0, 0),
  (74, .putfield 35, 77, 2, 6, 0), (77, .aload_n 1, 78, 0, 0, 0), (78, .iload_n 2, 79, 0, 0, 0), (79, .putfield 50, 82, 4, 2, 0), (82, .aload_n 1, 83, 0, 0, 0), (83, .iconst 0, 84, 0, 0, 0),
  (84, .putfield 51, 87, 4, 5, 0), (87, .return_, 88, 0, 0, 0)]
/-- 112: RingBridges$Ring.<init>(I)V -/
def rb_c112 : List (Nat × rb_I) := [(0, .aload_n 0, 1, 0, 0, 0), (1, .invokespecial 3, 4, 999, 1, 0), (4, .aload_n 0, 5, 0, 0, 0), (5, .iload_n 1, 6, 0, 0, 0), (6, .putfield 9, 9, 1, 0, 0), (9, .aload_n 0, 10, 0, 0, 0),
  (10, .iconst 5, 11, 0, 0, 5), (11, .anewarray 15, 14, 3, 0, 0), (14, .putfield 17, 17, 1, 1, 0), (17, .iconst 0, 18, 0, 0, 0), (18, .istore_n 2, 19, 0, 0, 0), (19, .iload_n 2, 20, 0, 0, 0),
  (20, .iconst 5, 21, 0, 0, 5), (21, .if_icmp .ge 22, 24, 43, 0, 0), (24, .aload_n 0, 25, 0, 0, 0), (25, .getfield 17, 28, 1, 1, 0), (28, .iload_n 2, 29, 0, 0, 0), (29, .new 15, 32, 2, 0, 0),
  (32, .dup, 33, 0, 0, 0), (33, .invokespecial 21, 36, 103, 1, 0), (36, .aastore, 37, 0, 0, 0), (37, .iinc 2 1, 40, 0, 0, 1), (40, .goto (-21), 43, 19, 0, 0), (43, .aload_n 0, 44, 0, 0, 0),
  (44, .new 22, 47, 4, 0, 0), (47, .dup, 48, 0, 0, 0), (48, .invokespecial 24, 51, 127, 1, 0), (51, .putfield 25, 54, 1, 2, 0), (54, .return_, 55, 0, 0, 0)]
/-- 113: RingBridges$Ring.isFull()Z -/
def rb_c113 : List (Nat × rb_I) := [(0, .aload_n 0, 1, 0, 0, 0), (1, .getfield 29, 4, 1, 3, 0), (4, .iconst 5, 5, 0, 0, 5), (5, .if_icmp .lt 7, 8, 12, 0, 0), (8, .iconst 1, 9, 0, 0, 1), (9, .goto 4, 12, 13, 0, 0),
  (12, .iconst 0, 13, 0, 0, 0), (13, .ireturn, 14, 0, 0, 0)]
/-- 114: RingBridges$Ring.placeOf(I)I -/
def rb_c114 : List (Nat × rb_I) := [(0, .iconst 0, 1, 0, 0, 0), (1, .istore_n 2, 2, 0, 0, 0), (2, .iload_n 2, 3, 0, 0, 0), (3, .aload_n 0, 4, 0, 0, 0), (4, .getfield 29, 7, 1, 3, 0), (7, .if_icmp .ge 29, 10, 36, 0, 0),
  (10, .iload_n 2, 11, 0, 0, 0), (11, .iconst 5, 12, 0, 0, 5), (12, .if_icmp .ge 24, 15, 36, 0, 0), (15, .aload_n 0, 16, 0, 0, 0), (16, .getfield 17, 19, 1, 1, 0), (19, .iload_n 2, 20, 0, 0, 0),
  (20, .aaload, 21, 0, 0, 0), (21, .getfield 32, 24, 2, 3, 0), (24, .iload_n 1, 25, 0, 0, 0), (25, .if_icmp .ne 5, 28, 30, 0, 0), (28, .iload_n 2, 29, 0, 0, 0), (29, .ireturn, 30, 0, 0, 0),
  (30, .iinc 2 1, 33, 0, 0, 1), (33, .goto (-31), 36, 2, 0, 0), (36, .iconst (-1), 37, 0, 0, (-1)), (37, .ireturn, 38, 0, 0, 0)]
/-- 115: RingBridges$Ring.nodeAt(I)LRingBridges$Node; -/
def rb_c115 : List (Nat × rb_I) := [(0, .iload_n 1, 1, 0, 0, 0), (1, .ifCond .lt 25, 4, 26, 0, 0), (4, .iload_n 1, 5, 0, 0, 0), (5, .aload_n 0, 6, 0, 0, 0), (6, .getfield 29, 9, 1, 3, 0), (9, .if_icmp .ge 17, 12, 26, 0, 0),
  (12, .iload_n 1, 13, 0, 0, 0), (13, .iconst 5, 14, 0, 0, 5), (14, .if_icmp .ge 12, 17, 26, 0, 0), (17, .aload_n 0, 18, 0, 0, 0), (18, .getfield 17, 21, 1, 1, 0), (21, .iload_n 1, 22, 0, 0, 0),
  (22, .aaload, 23, 0, 0, 0), (23, .goto 4, 26, 27, 0, 0), (26, .aconst_null, 27, 0, 0, 0), (27, .areturn, 28, 0, 0, 0)]
/-- 116: RingBridges$Ring.placeBehind(I)I -/
def rb_c116 : List (Nat × rb_I) := [(0, .iload_n 1, 1, 0, 0, 0), (1, .iconst 1, 2, 0, 0, 1), (2, .iadd, 3, 0, 0, 0), (3, .aload_n 0, 4, 0, 0, 0), (4, .getfield 29, 7, 1, 3, 0), (7, .if_icmp .ge 9, 10, 16, 0, 0),
  (10, .iload_n 1, 11, 0, 0, 0), (11, .iconst 1, 12, 0, 0, 1), (12, .iadd, 13, 0, 0, 0), (13, .goto 4, 16, 17, 0, 0), (16, .iconst 0, 17, 0, 0, 0), (17, .ireturn, 18, 0, 0, 0)]
/-- 117: RingBridges$Ring.addFrameAt(I)LRingBridges$Frame; -/
def rb_c117 : List (Nat × rb_I) := [(0, .aload_n 0, 1, 0, 0, 0), (1, .aload_n 0, 2, 0, 0, 0), (2, .iload_n 1, 3, 0, 0, 0), (3, .invokevirtual 35, 6, 114, 2, 0), (6, .invokevirtual 39, 9, 115, 2, 0), (9, .astore_n 2, 10, 0, 0, 0),
  (10, .aload_n 2, 11, 0, 0, 0), (11, .ifnonnull 7, 14, 18, 0, 0), (14, .aconst_null, 15, 0, 0, 0), (15, .goto 7, 18, 22, 0, 0), (18, .aload_n 2, 19, 0, 0, 0), (19, .invokevirtual 43, 22, 106, 1, 0),
  (22, .areturn, 23, 0, 0, 0)]
/-- 118: RingBridges$Ring.addNode(I)V -/
def rb_c118 : List (Nat × rb_I) := [(0, .aload_n 0, 1, 0, 0, 0), (1, .invokevirtual 47, 4, 113, 1, 0), (4, .ifCond .ne 26, 7, 30, 0, 0), (7, .aload_n 0, 8, 0, 0, 0), (8, .getfield 17, 11, 1, 1, 0), (11, .aload_n 0, 12, 0, 0, 0),
  (12, .getfield 29, 15, 1, 3, 0), (15, .aaload, 16, 0, 0, 0), (16, .iload_n 1, 17, 0, 0, 0), (17, .invokevirtual 51, 20, 104, 2, 0), (20, .aload_n 0, 21, 0, 0, 0), (21, .dup, 22, 0, 0, 0),
  (22, .getfield 29, 25, 1, 3, 0), (25, .iconst 1, 26, 0, 0, 1), (26, .iadd, 27, 0, 0, 0), (27, .putfield 29, 30, 1, 3, 0), (30, .return_, 31, 0, 0, 0)]
/-- 119: RingBridges$Ring.removeNode(I)V -/
def rb_c119 : List (Nat × rb_I) := [(0, .aload_n 0, 1, 0, 0, 0), (1, .iload_n 1, 2, 0, 0, 0), (2, .invokevirtual 39, 5, 115, 2, 0), (5, .astore_n 2, 6, 0, 0, 0), (6, .aload_n 2, 7, 0, 0, 0), (7, .ifnonnull 4, 10, 11, 0, 0),
  (10, .return_, 11, 0, 0, 0), (11, .iload_n 1, 12, 0, 0, 0), (12, .istore_n 3, 13, 0, 0, 0), (13, .iload_n 3, 14, 0, 0, 0), (14, .iconst 1, 15, 0, 0, 1), (15, .iadd, 16, 0, 0, 0),
  (16, .aload_n 0, 17, 0, 0, 0), (17, .getfield 29, 20, 1, 3, 0), (20, .if_icmp .ge 30, 23, 50, 0, 0), (23, .iload_n 3, 24, 0, 0, 0), (24, .iconst 1, 25, 0, 0, 1), (25, .iadd, 26, 0, 0, 0),
  (26, .iconst 5, 27, 0, 0, 5), (27, .if_icmp .ge 23, 30, 50, 0, 0), (30, .aload_n 0, 31, 0, 0, 0), (31, .getfield 17, 34, 1, 1, 0), (34, .iload_n 3, 35, 0, 0, 0), (35, .aload_n 0, 36, 0, 0, 0),
  (36, .getfield 17, 39, 1, 1, 0), (39, .iload_n 3, 40, 0, 0, 0), (40, .iconst 1, 41, 0, 0, 1), (41, .iadd, 42, 0, 0, 0), (42, .aaload, 43, 0, 0, 0), (43, .aastore, 44, 0, 0, 0),
  (44, .iinc 3 1, 47, 0, 0, 1), (47, .goto (-34), 50, 13, 0, 0), (50, .aload_n 0, 51, 0, 0, 0), (51, .dup, 52, 0, 0, 0), (52, .getfield 29, 55, 1, 3, 0), (55, .iconst 1, 56, 0, 0, 1),
  (56, .isub, 57, 0, 0, 0), (57, .putfield 29, 60, 1, 3, 0), (60, .aload_n 0, 61, 0, 0, 0), (61, .getfield 17, 64, 1, 1, 0), (64, .aload_n 0, 65, 0, 0, 0), (65, .getfield 29, 68, 1, 3, 0),
  (68, .aload_n 2, 69, 0, 0, 0), (69, .aastore, 70, 0, 0, 0), (70, .aload_n 0, 71, 0, 0, 0), (71, .getfield 55, 74, 1, 4, 0), (74, .iload_n 1, 75, 0, 0, 0), (75, .if_icmp .le 16, 78, 91, 0, 0),
  (78, .aload_n 0, 79, 0, 0, 0), (79, .dup, 80, 0, 0, 0), (80, .getfield 55, 83, 1, 4, 0), (83, .iconst 1, 84, 0, 0, 1), (84, .isub, 85, 0, 0, 0), (85, .putfield 55, 88, 1, 4, 0),
  (88, .goto 19, 91, 107, 0, 0), (91, .aload_n 0, 92, 0, 0, 0), (92, .getfield 55, 95, 1, 4, 0), (95, .aload_n 0, 96, 0, 0, 0), (96, .getfield 29, 99, 1, 3, 0), (99, .if_icmp .lt 8, 102, 107, 0, 0),
  (102, .aload_n 0, 103, 0, 0, 0), (103, .iconst 0, 104, 0, 0, 0), (104, .putfield 55, 107, 1, 4, 0), (107, .aload_n 0, 108, 0, 0, 0), (108, .getfield 58, 111, 1, 6, 0), (111, .aload_n 2, 112, 0, 0, 0),
  (112, .getfield 32, 115, 2, 3, 0), (115, .if_icmp .ne 8, 118, 123, 0, 0), (118, .aload_n 0, 119, 0, 0, 0), (119, .iconst 0, 120, 0, 0, 0), (120, .putfield 58, 123, 1, 6, 0), (123, .aload_n 0, 124, 0, 0, 0),
  (124, .getfield 25, 127, 1, 2, 0), (127, .getfield 61, 130, 4, 1, 0), (130, .iconst 3, 131, 0, 0, 3), (131, .if_icmp .eq 14, 134, 145, 0, 0), (134, .aload_n 0, 135, 0, 0, 0), (135, .getfield 25, 138, 1, 2, 0),
  (138, .getfield 61, 141, 4, 1, 0), (141, .iconst 4, 142, 0, 0, 4), (142, .if_icmp .ne 7, 145, 149, 0, 0), (145, .iconst 1, 146, 0, 0, 1), (146, .goto 4, 149, 150, 0, 0), (149, .iconst 0, 150, 0, 0, 0),
  (150, .istore_n 3, 151, 0, 0, 0), (151, .aload_n 0, 152, 0, 0, 0), (152, .getfield 29, 155, 1, 3, 0), (155, .ifCond .eq 21, 158, 176, 0, 0), (158, .iload_n 3, 159, 0, 0, 0), (159, .ifCond .eq 21, 162, 180, 0, 0),
  (162, .aload_n 0, 163, 0, 0, 0), (163, .getfield 25, 166, 1, 2, 0), (166, .getfield 64, 169, 4, 4, 0), (169, .aload_n 2, 170, 0, 0, 0), (170, .getfield 32, 173, 2, 3, 0), (173, .if_icmp .ne 7, 176, 180, 0, 0),
  (176, .aload_n 0, 177, 0, 0, 0), (177, .invokevirtual 65, 180, 120, 1, 0), (180, .return_, 181, 0, 0, 0)]
/-- 120: RingBridges$Ring.fallSilent()V -/
def rb_c120 : List (Nat × rb_I) := [(0, .aload_n 0, 1, 0, 0, 0), (1, .getfield 25, 4, 1, 2, 0), (4, .iconst 0, 5, 0, 0, 0), (5, .putfield 61, 8, 4, 1, 0), (8, .aload_n 0, 9, 0, 0, 0), (9, .iconst 0, 10, 0, 0, 0),
  (10, .putfield 68, 13, 1, 5, 0), (13, .return_, 14, 0, 0, 0)]
/-- 121: RingBridges$Ring.stayQuiet()V -/
def rb_c121 : List (Nat × rb_I) := [(0, .aload_n 0, 1, 0, 0, 0), (1, .dup, 2, 0, 0, 0), (2, .getfield 68, 5, 1, 5, 0), (5, .iconst 1, 6, 0, 0, 1), (6, .iadd, 7, 0, 0, 0), (7, .putfield 68, 10, 1, 5, 0),
  (10, .aload_n 0, 11, 0, 0, 0), (11, .getfield 68, 14, 1, 5, 0), (14, .bipush 6, 16, 0, 0, 6), (16, .if_icmp .ge 4, 19, 20, 0, 0), (19, .return_, 20, 0, 0, 0), (20, .aload_n 0, 21, 0, 0, 0),
  (21, .iconst 0, 22, 0, 0, 0), (22, .putfield 68, 25, 1, 5, 0), (25, .aload_n 0, 26, 0, 0, 0), (26, .getfield 58, 29, 1, 6, 0), (29, .ifCond .eq 26, 32, 55, 0, 0), (32, .aload_n 0, 33, 0, 0, 0),
  (33, .aload_n 0, 34, 0, 0, 0), (34, .aload_n 0, 35, 0, 0, 0), (35, .aload_n 0, 36, 0, 0, 0), (36, .getfield 58, 39, 1, 6, 0), (39, .invokevirtual 35, 42, 114, 2, 0), (42, .invokevirtual 71, 45, 116, 2, 0),
  (45, .putfield 55, 48, 1, 4, 0), (48, .aload_n 0, 49, 0, 0, 0), (49, .invokevirtual 74, 52, 122, 1, 0), (52, .goto 36, 55, 88, 0, 0), (55, .aload_n 0, 56, 0, 0, 0), (56, .aload_n 0, 57, 0, 0, 0),
  (57, .iconst 0, 58, 0, 0, 0), (58, .invokevirtual 71, 61, 116, 2, 0), (61, .putfield 55, 64, 1, 4, 0), (64, .aload_n 0, 65, 0, 0, 0), (65, .getfield 25, 68, 1, 2, 0), (68, .iconst 3, 69, 0, 0, 3),
  (69, .putfield 61, 72, 4, 1, 0), (72, .aload_n 0, 73, 0, 0, 0), (73, .getfield 25, 76, 1, 2, 0), (76, .aload_n 0, 77, 0, 0, 0), (77, .getfield 17, 80, 1, 1, 0), (80, .iconst 0, 81, 0, 0, 0),
  (81, .aaload, 82, 0, 0, 0), (82, .getfield 32, 85, 2, 3, 0), (85, .putfield 64, 88, 4, 4, 0), (88, .return_, 89, 0, 0, 0)]
/-- 122: RingBridges$Ring.startPurge()V -/
def rb_c122 : List (Nat × rb_I) := [(0, .aload_n 0, 1, 0, 0, 0), (1, .getfield 25, 4, 1, 2, 0), (4, .iconst 4, 5, 0, 0, 4), (5, .putfield 61, 8, 4, 1, 0), (8, .aload_n 0, 9, 0, 0, 0), (9, .getfield 25, 12, 1, 2, 0),
  (12, .aload_n 0, 13, 0, 0, 0), (13, .getfield 58, 16, 1, 6, 0), (16, .putfield 64, 19, 4, 4, 0), (19, .aload_n 0, 20, 0, 0, 0), (20, .dup, 21, 0, 0, 0), (21, .getfield 77, 24, 1, 7, 0),
  (24, .iconst 1, 25, 0, 0, 1), (25, .iadd, 26, 0, 0, 0), (26, .putfield 77, 29, 1, 7, 0), (29, .return_, 30, 0, 0, 0)]
/-- 123: RingBridges$Ring.meetToken(LRingBridges$Node;)V -/
def rb_c123 : List (Nat × rb_I) := [(0, .aload_n 1, 1, 0, 0, 0), (1, .getfield 32, 4, 2, 3, 0), (4, .aload_n 0, 5, 0, 0, 0), (5, .getfield 58, 8, 1, 6, 0), (8, .if_icmp .ne 36, 11, 44, 0, 0), (11, .aload_n 0, 12, 0, 0, 0),
  (12, .getfield 25, 15, 1, 2, 0), (15, .getfield 80, 18, 4, 2, 0), (18, .ifCond .le 26, 21, 44, 0, 0), (21, .aload_n 0, 22, 0, 0, 0), (22, .getfield 25, 25, 1, 2, 0), (25, .getfield 83, 28, 4, 5, 0),
  (28, .ifCond .eq 8, 31, 36, 0, 0), (31, .aload_n 0, 32, 0, 0, 0), (32, .invokevirtual 74, 35, 122, 1, 0), (35, .return_, 36, 0, 0, 0), (36, .aload_n 0, 37, 0, 0, 0), (37, .getfield 25, 40, 1, 2, 0),
  (40, .iconst 1, 41, 0, 0, 1), (41, .putfield 83, 44, 4, 5, 0), (44, .aload_n 1, 45, 0, 0, 0), (45, .getfield 87, 48, 2, 6, 0), (48, .ifCond .le 25, 51, 73, 0, 0), (51, .aload_n 1, 52, 0, 0, 0),
  (52, .invokevirtual 90, 55, 110, 1, 0), (55, .aload_n 0, 56, 0, 0, 0), (56, .getfield 25, 59, 1, 2, 0), (59, .getfield 80, 62, 4, 2, 0), (62, .if_icmp .ne 11, 65, 73, 0, 0), (65, .aload_n 1, 66, 0, 0, 0),
  (66, .aload_n 0, 67, 0, 0, 0), (67, .getfield 25, 70, 1, 2, 0), (70, .invokevirtual 94, 73, 111, 2, 0), (73, .aload_n 1, 74, 0, 0, 0), (74, .getfield 98, 77, 2, 5, 0), (77, .ifCond .le 52, 80, 129, 0, 0),
  (80, .aload_n 1, 81, 0, 0, 0), (81, .invokevirtual 101, 84, 107, 1, 0), (84, .aload_n 0, 85, 0, 0, 0), (85, .getfield 25, 88, 1, 2, 0), (88, .getfield 80, 91, 4, 2, 0), (91, .if_icmp .lt 38, 94, 129, 0, 0),
  (94, .aload_n 1, 95, 0, 0, 0), (95, .aload_n 0, 96, 0, 0, 0), (96, .getfield 25, 99, 1, 2, 0), (99, .getfield 104, 102, 4, 0, 0), (102, .invokevirtual 108, 105, 108, 2, 0), (105, .aload_n 0, 106, 0, 0, 0),
  (106, .getfield 25, 109, 1, 2, 0), (109, .aload_n 1, 110, 0, 0, 0), (110, .getfield 32, 113, 2, 3, 0), (113, .invokevirtual 112, 116, 129, 2, 0), (116, .aload_n 0, 117, 0, 0, 0), (117, .dup, 118, 0, 0, 0),
  (118, .getfield 115, 121, 1, 8, 0), (121, .iconst 1, 122, 0, 0, 1), (122, .iadd, 123, 0, 0, 0), (123, .putfield 115, 126, 1, 8, 0), (126, .goto 11, 129, 137, 0, 0), (129, .aload_n 0, 130, 0, 0, 0),
  (130, .getfield 25, 133, 1, 2, 0), (133, .aload_n 1, 134, 0, 0, 0), (134, .invokevirtual 118, 137, 131, 2, 0), (137, .return_, 138, 0, 0, 0)]
/-- 124: RingBridges$Ring.endFrame(LRingBridges$Node;)V -/
def rb_c124 : List (Nat × rb_I) := [(0, .aload_n 0, 1, 0, 0, 0), (1, .getfield 25, 4, 1, 2, 0), (4, .getfield 122, 7, 4, 7, 0), (7, .ifCond .ne 13, 10, 20, 0, 0), (10, .aload_n 0, 11, 0, 0, 0), (11, .dup, 12, 0, 0, 0),
  (12, .getfield 125, 15, 1, 9, 0), (15, .iconst 1, 16, 0, 0, 1), (16, .iadd, 17, 0, 0, 0), (17, .putfield 125, 20, 1, 9, 0), (20, .aload_n 0, 21, 0, 0, 0), (21, .getfield 25, 24, 1, 2, 0),
  (24, .aload_n 1, 25, 0, 0, 0), (25, .invokevirtual 118, 28, 131, 2, 0), (28, .aload_n 0, 29, 0, 0, 0), (29, .getfield 25, 32, 1, 2, 0), (32, .getfield 128, 35, 4, 3, 0), (35, .istore_n 2, 36, 0, 0, 0),
  (36, .iload_n 2, 37, 0, 0, 0), (37, .aload_n 0, 38, 0, 0, 0), (38, .getfield 25, 41, 1, 2, 0), (41, .getfield 80, 44, 4, 2, 0), (44, .if_icmp .le 27, 47, 71, 0, 0), (47, .aload_n 1, 48, 0, 0, 0),
  (48, .aload_n 0, 49, 0, 0, 0), (49, .getfield 25, 52, 1, 2, 0), (52, .getfield 80, 55, 4, 2, 0), (55, .iload_n 2, 56, 0, 0, 0), (56, .invokevirtual 131, 59, 109, 3, 0), (59, .aload_n 0, 60, 0, 0, 0),
  (60, .getfield 25, 63, 1, 2, 0), (63, .iload_n 2, 64, 0, 0, 0), (64, .iconst 0, 65, 0, 0, 0), (65, .invokevirtual 135, 68, 128, 3, 0), (68, .goto 18, 71, 86, 0, 0), (71, .aload_n 0, 72, 0, 0, 0),
  (72, .getfield 25, 75, 1, 2, 0), (75, .aload_n 0, 76, 0, 0, 0), (76, .getfield 25, 79, 1, 2, 0), (79, .getfield 80, 82, 4, 2, 0), (82, .iload_n 2, 83, 0, 0, 0), (83, .invokevirtual 135, 86, 128, 3, 0),
  (86, .return_, 87, 0, 0, 0)]
/-- 125: RingBridges$Ring.meetClaim(LRingBridges$Node;)V -/
def rb_c125 : List (Nat × rb_I) := [(0, .aload_n 1, 1, 0, 0, 0), (1, .getfield 32, 4, 2, 3, 0), (4, .aload_n 0, 5, 0, 0, 0), (5, .getfield 25, 8, 1, 2, 0), (8, .getfield 64, 11, 4, 4, 0), (11, .if_icmp .le 17, 14, 28, 0, 0),
  (14, .aload_n 0, 15, 0, 0, 0), (15, .getfield 25, 18, 1, 2, 0), (18, .aload_n 1, 19, 0, 0, 0), (19, .getfield 32, 22, 2, 3, 0), (22, .putfield 64, 25, 4, 4, 0), (25, .goto 29, 28, 54, 0, 0),
  (28, .aload_n 1, 29, 0, 0, 0), (29, .getfield 32, 32, 2, 3, 0), (32, .aload_n 0, 33, 0, 0, 0), (33, .getfield 25, 36, 1, 2, 0), (36, .getfield 64, 39, 4, 4, 0), (39, .if_icmp .ne 15, 42, 54, 0, 0),
  (42, .aload_n 0, 43, 0, 0, 0), (43, .aload_n 1, 44, 0, 0, 0), (44, .getfield 32, 47, 2, 3, 0), (47, .putfield 58, 50, 1, 6, 0), (50, .aload_n 0, 51, 0, 0, 0), (51, .invokevirtual 74, 54, 122, 1, 0),
  (54, .return_, 55, 0, 0, 0)]
/-- 126: RingBridges$Ring.meetPurge(LRingBridges$Node;)V -/
def rb_c126 : List (Nat × rb_I) := [(0, .aload_n 1, 1, 0, 0, 0), (1, .iconst 0, 2, 0, 0, 0), (2, .putfield 87, 5, 2, 6, 0), (5, .aload_n 1, 6, 0, 0, 0), (6, .getfield 32, 9, 2, 3, 0), (9, .aload_n 0, 10, 0, 0, 0),
  (10, .getfield 25, 13, 1, 2, 0), (13, .getfield 64, 16, 4, 4, 0), (16, .if_icmp .ne 12, 19, 28, 0, 0), (19, .aload_n 0, 20, 0, 0, 0), (20, .getfield 25, 23, 1, 2, 0), (23, .iconst 0, 24, 0, 0, 0),
  (24, .iconst 0, 25, 0, 0, 0), (25, .invokevirtual 135, 28, 128, 3, 0), (28, .return_, 29, 0, 0, 0)]
/-- 127: RingBridges$Signal.<init>()V -/
def rb_c127 : List (Nat × rb_I) := [(0, .aload_n 0, 1, 0, 0, 0), (1, .invokespecial 3, 4, 999, 1, 0), (4, .aload_n 0, 5, 0, 0, 0), (5, .new 9, 8, 3, 0, 0), (8, .dup, 9, 0, 0, 0), (9, .invokespecial 11, 12, 94, 1, 1),
  (12, .putfield 12, 15, 4, 0, 0), (15, .aload_n 0, 16, 0, 0, 0), (16, .iconst 0, 17, 0, 0, 0), (17, .putfield 18, 20, 4, 1, 0), (20, .return_, 21, 0, 0, 0)]
/-- 128: RingBridges$Signal.becomeToken(II)V -/
def rb_c128 : List (Nat × rb_I) := [(0, .aload_n 0, 1, 0, 0, 0), (1, .iconst 1, 2, 0, 0, 1), (2, .putfield 18, 5, 4, 1, 0), (5, .aload_n 0, 6, 0, 0, 0), (6, .iload_n 1, 7, 0, 0, 0), (7, .putfield 22, 10, 4, 2, 0),
  (10, .aload_n 0, 11, 0, 0, 0), (11, .iload_n 2, 12, 0, 0, 0), (12, .putfield 25, 15, 4, 3, 0), (15, .aload_n 0, 16, 0, 0, 0), (16, .invokevirtual 28, 19, 130, 1, 0), (19, .return_, 20, 0, 0, 0)]
/-- 129: RingBridges$Signal.becomeFrame(I)V -/
def rb_c129 : List (Nat × rb_I) := [(0, .aload_n 0, 1, 0, 0, 0), (1, .iconst 2, 2, 0, 0, 2), (2, .putfield 18, 5, 4, 1, 0), (5, .aload_n 0, 6, 0, 0, 0), (6, .iload_n 1, 7, 0, 0, 0), (7, .putfield 31, 10, 4, 4, 0),
  (10, .aload_n 0, 11, 0, 0, 0), (11, .iconst 0, 12, 0, 0, 0), (12, .putfield 25, 15, 4, 3, 0), (15, .aload_n 0, 16, 0, 0, 0), (16, .invokevirtual 28, 19, 130, 1, 0), (19, .return_, 20, 0, 0, 0)]
/-- 130: RingBridges$Signal.clearMarks()V -/
def rb_c130 : List (Nat × rb_I) := [(0, .aload_n 0, 1, 0, 0, 0), (1, .iconst 0, 2, 0, 0, 0), (2, .putfield 34, 5, 4, 5, 0), (5, .aload_n 0, 6, 0, 0, 0), (6, .iconst 0, 7, 0, 0, 0), (7, .putfield 38, 10, 4, 6, 0),
  (10, .aload_n 0, 11, 0, 0, 0), (11, .iconst 0, 12, 0, 0, 0), (12, .putfield 41, 15, 4, 7, 0), (15, .return_, 16, 0, 0, 0)]
/-- 131: RingBridges$Signal.reserve(LRingBridges$Node;)V -/
def rb_c131 : List (Nat × rb_I) := [(0, .aload_n 1, 1, 0, 0, 0), (1, .getfield 44, 4, 2, 5, 0), (4, .ifCond .le 22, 7, 26, 0, 0), (7, .aload_n 1, 8, 0, 0, 0), (8, .invokevirtual 49, 11, 107, 1, 0), (11, .aload_n 0, 12, 0, 0, 0),
  (12, .getfield 25, 15, 4, 3, 0), (15, .if_icmp .le 11, 18, 26, 0, 0), (18, .aload_n 0, 19, 0, 0, 0), (19, .aload_n 1, 20, 0, 0, 0), (20, .invokevirtual 49, 23, 107, 1, 0), (23, .putfield 25, 26, 4, 3, 0),
  (26, .return_, 27, 0, 0, 0)]
/-- 132: RingBridges$Signal.code()I -/
def rb_c132 : List (Nat × rb_I) := [(0, .aload_n 0, 1, 0, 0, 0), (1, .getfield 18, 4, 4, 1, 0), (4, .tableswitch 51 0 4 #[36, 51, 51, 38, 38], 40, 6, 55, 0), (40, .iconst 0, 41, 0, 0, 0), (41, .ireturn, 42, 0, 0, 0), (42, .aload_n 0, 43, 0, 0, 0),
  (43, .getfield 18, 46, 4, 1, 0), (46, .bipush 8, 48, 0, 0, 8), (48, .aload_n 0, 49, 0, 0, 0), (49, .getfield 31, 52, 4, 4, 0), (52, .imul, 53, 0, 0, 0), (53, .iadd, 54, 0, 0, 0),
  (54, .ireturn, 55, 0, 0, 0), (55, .aload_n 0, 56, 0, 0, 0), (56, .getfield 18, 59, 4, 1, 0), (59, .bipush 8, 61, 0, 0, 8), (61, .aload_n 0, 62, 0, 0, 0), (62, .getfield 22, 65, 4, 2, 0),
  (65, .imul, 66, 0, 0, 0), (66, .iadd, 67, 0, 0, 0), (67, .bipush 32, 69, 0, 0, 32), (69, .aload_n 0, 70, 0, 0, 0), (70, .getfield 25, 73, 4, 3, 0), (73, .imul, 74, 0, 0, 0),
  (74, .iadd, 75, 0, 0, 0), (75, .aload_n 0, 76, 0, 0, 0), (76, .getfield 34, 79, 4, 5, 0), (79, .ifCond .eq 9, 82, 88, 0, 0), (82, .sipush 128, 85, 0, 0, 128), (85, .goto 4, 88, 89, 0, 0),
  (88, .iconst 0, 89, 0, 0, 0), (89, .iadd, 90, 0, 0, 0), (90, .aload_n 0, 91, 0, 0, 0), (91, .getfield 38, 94, 4, 6, 0), (94, .ifCond .eq 9, 97, 103, 0, 0), (97, .sipush 256, 100, 0, 0, 256),
  (100, .goto 4, 103, 104, 0, 0), (103, .iconst 0, 104, 0, 0, 0), (104, .iadd, 105, 0, 0, 0), (105, .aload_n 0, 106, 0, 0, 0), (106, .getfield 41, 109, 4, 7, 0), (109, .ifCond .eq 9, 112, 118, 0, 0),
  (112, .sipush 512, 115, 0, 0, 512), (115, .goto 4, 118, 119, 0, 0), (118, .iconst 0, 119, 0, 0, 0), (119, .iadd, 120, 0, 0, 0), (120, .ireturn, 121, 0, 0, 0)]
def rb_code : List (List (Nat × rb_I)) := [rb_c0, rb_c1, rb_c2, rb_c3, rb_c4, rb_c5, rb_c6, rb_c7, rb_c8, rb_c9, rb_c10, rb_c11, rb_c12, rb_c13, rb_c14, rb_c15, rb_c16, rb_c17, rb_c18, rb_c19, rb_c20, rb_c21, rb_c22, rb_c23, rb_c24, rb_c25, rb_c26, rb_c27, rb_c28, rb_c29, rb_c30, rb_c31, rb_c32, rb_c33, rb_c34, rb_c35, rb_c36, rb_c37, rb_c38, rb_c39, rb_c40, rb_c41, rb_c42, rb_c43, rb_c44, rb_c45, rb_c46, rb_c47, rb_c48, rb_c49, rb_c50, rb_c51, rb_c52, rb_c53, rb_c54, rb_c55, rb_c56, rb_c57, rb_c58, rb_c59, rb_c60, rb_c61, rb_c62, rb_c63, rb_c64, rb_c65, rb_c66, rb_c67, rb_c68, rb_c69, rb_c70, rb_c71, rb_c72, rb_c73, rb_c74, rb_c75, rb_c76, rb_c77, rb_c78, rb_c79, rb_c80, rb_c81, rb_c82, rb_c83, rb_c84, rb_c85, rb_c86, rb_c87, rb_c88, rb_c89, rb_c90, rb_c91, rb_c92, rb_c93, rb_c94, rb_c95, rb_c96, rb_c97, rb_c98, rb_c99, rb_c100, rb_c101, rb_c102, rb_c103, rb_c104, rb_c105, rb_c106, rb_c107, rb_c108, rb_c109, rb_c110, rb_c111, rb_c112, rb_c113, rb_c114, rb_c115, rb_c116, rb_c117, rb_c118, rb_c119, rb_c120, rb_c121, rb_c122, rb_c123, rb_c124, rb_c125, rb_c126, rb_c127, rb_c128, rb_c129, rb_c130, rb_c131, rb_c132]
def rb_look (pc : Nat) : List (Nat × rb_I) → Option rb_I
  | [] => none
  | q :: r => match Nat.beq q.1 pc with
    | true => some q.2
    | false => rb_look pc r
def rb_ins (k pc : Nat) : Option rb_I := rb_look pc (rb_code.getD k [])
def rb_wF : List (List Cond) := [[.fieldLink "RingBridges" 11 "RingBridges" "rings" "[LRingBridges$Ring;", .fieldLink "RingBridges" 20 "RingBridges" "links" "[LRingBridges$Link;", .fieldLink "RingBridges" 27 "RingBridges" "routes" "[[I", .fieldLink "RingBridges" 30 "RingBridges" "ticks" "I", .fieldLink "RingBridges" 62 "RingBridges$Ring" "signal" "LRingBridges$Signal;", .fieldLink "RingBridges" 66 "RingBridges$Signal" "kind" "I", .fieldLink "RingBridges" 71 "RingBridges$Signal" "bad" "Z", .fieldLink "RingBridges" 88 "RingBridges$Ring" "number" "I", .fieldLink "RingBridges" 91 "RingBridges$Frame" "visited" "I", .fieldLink "RingBridges" 102 "RingBridges$Link" "state" "I", .fieldLink "RingBridges" 110 "RingBridges$Link" "offered" "LRingBridges$ByteRow;", .fieldLink "RingBridges" 120 "RingBridges$Link" "inbox" "LRingBridges$ByteRow;", .fieldLink "RingBridges" 123 "RingBridges$ByteRow" "size" "I", .fieldLink "RingBridges" 132 "RingBridges$Link" "puttingOff" "Z", .fieldLink "RingBridges" 135 "RingBridges$Link" "to" "I", .fieldLink "RingBridges" 164 "RingBridges$Ring" "at" "I", .fieldLink "RingBridges" 167 "RingBridges$Ring" "monitor" "I", .fieldLink "RingBridges" 173 "RingBridges$Node" "address" "I", .fieldLink "RingBridges" 176 "RingBridges$Node" "waiting" "I", .fieldLink "RingBridges" 179 "RingBridges$Node" "depth" "I", .fieldLink "RingBridges" 182 "RingBridges$Ring" "purges" "I", .fieldLink "RingBridges" 185 "RingBridges$Ring" "sent" "I", .fieldLink "RingBridges" 188 "RingBridges$Ring" "lost" "I", .fieldLink "RingBridges" 191 "RingBridges$Link" "first" "I", .fieldLink "RingBridges" 194 "RingBridges$Link" "sent" "I", .fieldLink "RingBridges" 195 "RingBridges$Link" "expected" "I", .fieldLink "RingBridges" 198 "RingBridges$Link" "tries" "I", .fieldLink "RingBridges" 201 "RingBridges$Link" "waiting" "Z", .fieldLink "RingBridges" 203 "RingBridges$Link" "timer" "I", .fieldLink "RingBridges" 206 "RingBridges$Link" "from" "I", .fieldLink "RingBridges" 209 "RingBridges$Ring" "size" "I", .fieldLink "RingBridges" 230 "RingBridges$Signal" "address" "I", .fieldLink "RingBridges" 234 "RingBridges$Signal" "seen" "Z", .fieldLink "RingBridges" 244 "RingBridges$Signal" "copied" "Z", .fieldLink "RingBridges" 250 "RingBridges$Signal" "frame" "LRingBridges$Frame;", .fieldLink "RingBridges" 254 "RingBridges$Frame" "kind" "I", .fieldLink "RingBridges" 262 "RingBridges$Frame" "route" "I", .fieldLink "RingBridges" 265 "RingBridges$Frame" "to" "I", .fieldLink "RingBridges" 290 "RingBridges$Frame" "path" "I", .fieldLink "RingBridges" 303 "RingBridges$Frame" "from" "I", .fieldLink "RingBridges" 307 "RingBridges$Frame" "connection" "I", .fieldLink "RingBridges" 310 "RingBridges$Link" "opening" "I", .fieldLink "RingBridges" 313 "RingBridges$Frame" "opening" "I", .fieldLink "RingBridges" 314 "RingBridges$Frame" "number" "I", .fieldLink "RingBridges" 315 "RingBridges$Frame" "value" "I", .fieldLink "RingBridges" 325 "RingBridges$Link" "route" "I", .fieldLink "RingBridges" 330 "RingBridges$Link" "priority" "I"],
  [.fieldLink "RingBridges$Ring" 9 "RingBridges$Ring" "number" "I", .fieldLink "RingBridges$Ring" 17 "RingBridges$Ring" "nodes" "[LRingBridges$Node;", .fieldLink "RingBridges$Ring" 25 "RingBridges$Ring" "signal" "LRingBridges$Signal;", .fieldLink "RingBridges$Ring" 29 "RingBridges$Ring" "size" "I", .fieldLink "RingBridges$Ring" 32 "RingBridges$Node" "address" "I", .fieldLink "RingBridges$Ring" 55 "RingBridges$Ring" "at" "I", .fieldLink "RingBridges$Ring" 58 "RingBridges$Ring" "monitor" "I", .fieldLink "RingBridges$Ring" 61 "RingBridges$Signal" "kind" "I", .fieldLink "RingBridges$Ring" 64 "RingBridges$Signal" "address" "I", .fieldLink "RingBridges$Ring" 68 "RingBridges$Ring" "quiet" "I", .fieldLink "RingBridges$Ring" 77 "RingBridges$Ring" "purges" "I", .fieldLink "RingBridges$Ring" 80 "RingBridges$Signal" "priority" "I", .fieldLink "RingBridges$Ring" 83 "RingBridges$Signal" "seen" "Z", .fieldLink "RingBridges$Ring" 87 "RingBridges$Node" "depth" "I", .fieldLink "RingBridges$Ring" 98 "RingBridges$Node" "waiting" "I", .fieldLink "RingBridges$Ring" 104 "RingBridges$Signal" "frame" "LRingBridges$Frame;", .fieldLink "RingBridges$Ring" 115 "RingBridges$Ring" "sent" "I", .fieldLink "RingBridges$Ring" 122 "RingBridges$Signal" "copied" "Z", .fieldLink "RingBridges$Ring" 125 "RingBridges$Ring" "lost" "I", .fieldLink "RingBridges$Ring" 128 "RingBridges$Signal" "reserved" "I"],
  [.fieldLink "RingBridges$Node" 11 "RingBridges$Node" "queue" "[LRingBridges$Frame;", .fieldLink "RingBridges$Node" 18 "RingBridges$Node" "lowers" "[I", .fieldLink "RingBridges$Node" 22 "RingBridges$Node" "uppers" "[I", .fieldLink "RingBridges$Node" 25 "RingBridges$Node" "address" "I", .fieldLink "RingBridges$Node" 29 "RingBridges$Node" "head" "I", .fieldLink "RingBridges$Node" 32 "RingBridges$Node" "waiting" "I", .fieldLink "RingBridges$Node" 35 "RingBridges$Node" "depth" "I", .fieldLink "RingBridges$Node" 38 "RingBridges$Frame" "priority" "I", .fieldLink "RingBridges$Node" 45 "RingBridges$Signal" "reserved" "I", .fieldLink "RingBridges$Node" 50 "RingBridges$Signal" "priority" "I", .fieldLink "RingBridges$Node" 51 "RingBridges$Signal" "seen" "Z"],
  [.fieldLink "RingBridges$Frame" 9 "RingBridges$Frame" "kind" "I", .fieldLink "RingBridges$Frame" 15 "RingBridges$Frame" "priority" "I", .fieldLink "RingBridges$Frame" 18 "RingBridges$Frame" "from" "I", .fieldLink "RingBridges$Frame" 21 "RingBridges$Frame" "to" "I", .fieldLink "RingBridges$Frame" 24 "RingBridges$Frame" "route" "I", .fieldLink "RingBridges$Frame" 27 "RingBridges$Frame" "path" "I", .fieldLink "RingBridges$Frame" 30 "RingBridges$Link" "number" "I", .fieldLink "RingBridges$Frame" 35 "RingBridges$Frame" "connection" "I", .fieldLink "RingBridges$Frame" 38 "RingBridges$Link" "opening" "I", .fieldLink "RingBridges$Frame" 41 "RingBridges$Frame" "opening" "I", .fieldLink "RingBridges$Frame" 42 "RingBridges$Frame" "number" "I", .fieldLink "RingBridges$Frame" 43 "RingBridges$Frame" "visited" "I", .fieldLink "RingBridges$Frame" 46 "RingBridges$Frame" "value" "I"],
  [.fieldLink "RingBridges$Signal" 12 "RingBridges$Signal" "frame" "LRingBridges$Frame;", .fieldLink "RingBridges$Signal" 18 "RingBridges$Signal" "kind" "I", .fieldLink "RingBridges$Signal" 22 "RingBridges$Signal" "priority" "I", .fieldLink "RingBridges$Signal" 25 "RingBridges$Signal" "reserved" "I", .fieldLink "RingBridges$Signal" 31 "RingBridges$Signal" "address" "I", .fieldLink "RingBridges$Signal" 34 "RingBridges$Signal" "seen" "Z", .fieldLink "RingBridges$Signal" 38 "RingBridges$Signal" "bad" "Z", .fieldLink "RingBridges$Signal" 41 "RingBridges$Signal" "copied" "Z", .fieldLink "RingBridges$Signal" 44 "RingBridges$Node" "waiting" "I"],
  [.fieldLink "RingBridges$Link" 9 "RingBridges$Link" "number" "I", .fieldLink "RingBridges$Link" 20 "RingBridges$Link" "offered" "LRingBridges$ByteRow;", .fieldLink "RingBridges$Link" 24 "RingBridges$Link" "inbox" "LRingBridges$ByteRow;", .fieldLink "RingBridges$Link" 27 "RingBridges$Link" "state" "I", .fieldLink "RingBridges$Link" 30 "RingBridges$Link" "opening" "I", .fieldLink "RingBridges$Link" 33 "RingBridges$Link" "from" "I", .fieldLink "RingBridges$Link" 36 "RingBridges$Link" "to" "I", .fieldLink "RingBridges$Link" 39 "RingBridges$Link" "priority" "I", .fieldLink "RingBridges$Link" 42 "RingBridges$Link" "route" "I", .fieldLink "RingBridges$Link" 48 "RingBridges$Link" "first" "I", .fieldLink "RingBridges$Link" 51 "RingBridges$Link" "sent" "I", .fieldLink "RingBridges$Link" 54 "RingBridges$Link" "timer" "I", .fieldLink "RingBridges$Link" 57 "RingBridges$Link" "tries" "I", .fieldLink "RingBridges$Link" 60 "RingBridges$Link" "expected" "I", .fieldLink "RingBridges$Link" 63 "RingBridges$Link" "waiting" "Z", .fieldLink "RingBridges$Link" 67 "RingBridges$Link" "complaining" "Z", .fieldLink "RingBridges$Link" 70 "RingBridges$Link" "puttingOff" "Z"],
  [.fieldLink "RingBridges$ByteRow" 7 "RingBridges$ByteRow" "values" "[I", .fieldLink "RingBridges$ByteRow" 13 "RingBridges$ByteRow" "mask" "I", .fieldLink "RingBridges$ByteRow" 17 "RingBridges$ByteRow" "start" "I", .fieldLink "RingBridges$ByteRow" 20 "RingBridges$ByteRow" "size" "I"],
  [.fieldLink "RingBridgesModel" 7 "RingBridgesModel" "place" "[I", .fieldLink "RingBridgesModel" 13 "RingBridgesModel" "members" "[I", .fieldLink "RingBridgesModel" 16 "RingBridgesModel" "here" "[Z", .fieldLink "RingBridgesModel" 20 "RingBridgesModel" "ringOf" "[I", .fieldLink "RingBridgesModel" 23 "RingBridgesModel" "waits" "[I", .fieldLink "RingBridgesModel" 26 "RingBridgesModel" "pairs" "[I", .fieldLink "RingBridgesModel" 29 "RingBridgesModel" "lower" "[I", .fieldLink "RingBridgesModel" 32 "RingBridgesModel" "upper" "[I", .fieldLink "RingBridgesModel" 35 "RingBridgesModel" "kind" "[I", .fieldLink "RingBridgesModel" 38 "RingBridgesModel" "own" "[I", .fieldLink "RingBridgesModel" 41 "RingBridgesModel" "from" "[I", .fieldLink "RingBridgesModel" 44 "RingBridgesModel" "to" "[I", .fieldLink "RingBridgesModel" 47 "RingBridgesModel" "first" "[I", .fieldLink "RingBridgesModel" 50 "RingBridgesModel" "second" "[I", .fieldLink "RingBridgesModel" 53 "RingBridgesModel" "pathA" "[I", .fieldLink "RingBridgesModel" 56 "RingBridgesModel" "pathB" "[I", .fieldLink "RingBridgesModel" 59 "RingBridgesModel" "rings" "[I", .fieldLink "RingBridgesModel" 62 "RingBridgesModel" "link" "[I", .fieldLink "RingBridgesModel" 65 "RingBridgesModel" "opening" "[I", .fieldLink "RingBridgesModel" 68 "RingBridgesModel" "number" "[I", .fieldLink "RingBridgesModel" 71 "RingBridgesModel" "load" "[I", .fieldLink "RingBridgesModel" 74 "RingBridgesModel" "signalOf" "[I", .fieldLink "RingBridgesModel" 77 "RingBridgesModel" "at" "[I", .fieldLink "RingBridgesModel" 80 "RingBridgesModel" "quiet" "[I", .fieldLink "RingBridgesModel" 83 "RingBridgesModel" "priority" "[I", .fieldLink "RingBridgesModel" 86 "RingBridgesModel" "reserved" "[I", .fieldLink "RingBridgesModel" 89 "RingBridgesModel" "seen" "[Z", .fieldLink "RingBridgesModel" 92 "RingBridgesModel" "bad" "[Z", .fieldLink "RingBridgesModel" 95 "RingBridgesModel" "copied" "[Z", .fieldLink "RingBridgesModel" 98 "RingBridgesModel" "addressed" "[I", .fieldLink "RingBridgesModel" 101 "RingBridgesModel" "monitorOf" "[I", .fieldLink "RingBridgesModel" 104 "RingBridgesModel" "counts" "[I", .fieldLink "RingBridgesModel" 107 "RingBridgesModel" "known" "[Z", .fieldLink "RingBridgesModel" 110 "RingBridgesModel" "routeA" "[I", .fieldLink "RingBridgesModel" 113 "RingBridgesModel" "routeB" "[I", .fieldLink "RingBridgesModel" 116 "RingBridgesModel" "stateOf" "[I", .fieldLink "RingBridgesModel" 119 "RingBridgesModel" "fromOf" "[I", .fieldLink "RingBridgesModel" 122 "RingBridgesModel" "toOf" "[I", .fieldLink "RingBridgesModel" 125 "RingBridgesModel" "ownOf" "[I", .fieldLink "RingBridgesModel" 128 "RingBridgesModel" "wayA" "[I", .fieldLink "RingBridgesModel" 131 "RingBridgesModel" "wayB" "[I", .fieldLink "RingBridgesModel" 134 "RingBridgesModel" "openings" "[I", .fieldLink "RingBridgesModel" 137 "RingBridgesModel" "firstOf" "[I", .fieldLink "RingBridgesModel" 140 "RingBridgesModel" "sentOf" "[I", .fieldLink "RingBridgesModel" 143 "RingBridgesModel" "offeredOf" "[I", .fieldLink "RingBridgesModel" 146 "RingBridgesModel" "offered" "[I", .fieldLink "RingBridgesModel" 149 "RingBridgesModel" "waiting" "[Z", .fieldLink "RingBridgesModel" 152 "RingBridgesModel" "timers" "[I", .fieldLink "RingBridgesModel" 155 "RingBridgesModel" "triesOf" "[I", .fieldLink "RingBridgesModel" 158 "RingBridgesModel" "expectedOf" "[I", .fieldLink "RingBridgesModel" 161 "RingBridgesModel" "inboxOf" "[I", .fieldLink "RingBridgesModel" 164 "RingBridgesModel" "inbox" "[I", .fieldLink "RingBridgesModel" 167 "RingBridgesModel" "complains" "[Z", .fieldLink "RingBridgesModel" 170 "RingBridgesModel" "putsOff" "[Z", .fieldLink "RingBridgesModel" 244 "RingBridgesModel" "ticks" "I"]]
def rb_wM : List (List Cond) := [[.methodLink "RingBridges" 1 Lib.objectInit, .methodLink "RingBridges" 15 ⟨"RingBridges$Ring", "<init>", "(I)V"⟩, .methodLink "RingBridges" 24 ⟨"RingBridges$Link", "<init>", "(I)V"⟩, .methodLink "RingBridges" 34 ⟨"RingBridges", "ringNumbered", "(I)LRingBridges$Ring;"⟩, .methodLink "RingBridges" 38 ⟨"RingBridges", "isStationAddress", "(I)Z"⟩, .methodLink "RingBridges" 42 ⟨"RingBridges$Ring", "isFull", "()Z"⟩, .methodLink "RingBridges" 46 ⟨"RingBridges", "ringHolding", "(I)LRingBridges$Ring;"⟩, .methodLink "RingBridges" 49 ⟨"RingBridges$Ring", "addNode", "(I)V"⟩, .methodLink "RingBridges" 52 ⟨"RingBridges$Ring", "placeOf", "(I)I"⟩, .methodLink "RingBridges" 56 ⟨"RingBridges$Ring", "removeNode", "(I)V"⟩, .methodLink "RingBridges" 59 ⟨"RingBridges", "forgetStation", "(I)V"⟩, .methodLink "RingBridges" 75 ⟨"RingBridges$Ring", "fallSilent", "()V"⟩, .methodLink "RingBridges" 78 ⟨"RingBridges$Ring", "addFrameAt", "(I)LRingBridges$Frame;"⟩, .methodLink "RingBridges" 82 ⟨"RingBridges$Frame", "begin", "(IIII)V"⟩, .methodLink "RingBridges" 94 ⟨"RingBridges", "knownRoute", "(II)I"⟩, .methodLink "RingBridges" 98 ⟨"RingBridges", "setRoute", "(III)V"⟩, .methodLink "RingBridges" 105 ⟨"RingBridges$Link", "begin", "(IIII)V"⟩, .methodLink "RingBridges" 106 ⟨"RingBridges", "linkNumbered", "(I)LRingBridges$Link;"⟩, .methodLink "RingBridges" 114 ⟨"RingBridges$ByteRow", "isFull", "()Z"⟩, .methodLink "RingBridges" 117 ⟨"RingBridges$ByteRow", "add", "(I)V"⟩, .methodLink "RingBridges" 126 ⟨"RingBridges$ByteRow", "get", "(I)I"⟩, .methodLink "RingBridges" 129 ⟨"RingBridges$ByteRow", "dropFirst", "(I)V"⟩, .methodLink "RingBridges" 138 ⟨"RingBridges", "nodeHolding", "(I)LRingBridges$Node;"⟩, .methodLink "RingBridges" 142 ⟨"RingBridges$Node", "isFull", "()Z"⟩, .methodLink "RingBridges" 145 ⟨"RingBridges", "queueAnswer", "(LRingBridges$Node;LRingBridges$Link;I)V"⟩, .methodLink "RingBridges" 149 ⟨"RingBridges", "moveRing", "(LRingBridges$Ring;)V"⟩, .methodLink "RingBridges" 153 ⟨"RingBridges$Link", "runTimer", "()V"⟩, .methodLink "RingBridges" 156 ⟨"RingBridges", "queueData", "(LRingBridges$Link;)V"⟩, .methodLink "RingBridges" 160 ⟨"RingBridges$Signal", "code", "()I"⟩, .methodLink "RingBridges" 170 ⟨"RingBridges$Ring", "nodeAt", "(I)LRingBridges$Node;"⟩, .methodLink "RingBridges" 210 ⟨"RingBridges$Ring", "stayQuiet", "()V"⟩, .methodLink "RingBridges" 213 ⟨"RingBridges$Ring", "placeBehind", "(I)I"⟩, .methodLink "RingBridges" 216 ⟨"RingBridges$Ring", "meetToken", "(LRingBridges$Node;)V"⟩, .methodLink "RingBridges" 220 ⟨"RingBridges", "meetFrame", "(LRingBridges$Ring;LRingBridges$Node;)V"⟩, .methodLink "RingBridges" 224 ⟨"RingBridges$Ring", "meetClaim", "(LRingBridges$Node;)V"⟩, .methodLink "RingBridges" 227 ⟨"RingBridges$Ring", "meetPurge", "(LRingBridges$Node;)V"⟩, .methodLink "RingBridges" 231 ⟨"RingBridges$Ring", "endFrame", "(LRingBridges$Node;)V"⟩, .methodLink "RingBridges" 237 ⟨"RingBridges$Ring", "startPurge", "()V"⟩, .methodLink "RingBridges" 240 ⟨"RingBridges", "receive", "(LRingBridges$Ring;LRingBridges$Node;)Z"⟩, .methodLink "RingBridges" 247 ⟨"RingBridges$Signal", "reserve", "(LRingBridges$Node;)V"⟩, .methodLink "RingBridges" 255 ⟨"RingBridges", "spreadFrame", "(LRingBridges$Ring;LRingBridges$Node;LRingBridges$Frame;)Z"⟩, .methodLink "RingBridges" 259 ⟨"RingBridges", "carryFrame", "(LRingBridges$Ring;LRingBridges$Node;LRingBridges$Frame;)Z"⟩, .methodLink "RingBridges" 266 ⟨"RingBridges", "queueReply", "(LRingBridges$Node;LRingBridges$Frame;)V"⟩, .methodLink "RingBridges" 270 ⟨"RingBridges", "learnRoute", "(LRingBridges$Frame;)V"⟩, .methodLink "RingBridges" 274 ⟨"RingBridges", "useFrame", "(LRingBridges$Node;LRingBridges$Frame;)V"⟩, .methodLink "RingBridges" 277 ⟨"RingBridges", "firstPort", "(I)I"⟩, .methodLink "RingBridges" 280 ⟨"RingBridges", "ringBeyond", "(LRingBridges$Ring;I)LRingBridges$Ring;"⟩, .methodLink "RingBridges" 284 ⟨"RingBridges$Frame", "copyFrom", "(LRingBridges$Frame;)V"⟩, .methodLink "RingBridges" 287 ⟨"RingBridges", "withoutFirst", "(I)I"⟩, .methodLink "RingBridges" 293 ⟨"RingBridges", "hasTwo", "(I)Z"⟩, .methodLink "RingBridges" 296 ⟨"RingBridges", "withLast", "(II)I"⟩, .methodLink "RingBridges" 299 ⟨"RingBridges$Node", "addFrame", "()LRingBridges$Frame;"⟩, .methodLink "RingBridges" 304 ⟨"RingBridges", "backwards", "(I)I"⟩, .methodLink "RingBridges" 318 ⟨"RingBridges$Link", "acceptData", "(II)I"⟩, .methodLink "RingBridges" 321 ⟨"RingBridges$Link", "acceptAnswer", "(II)V"⟩, .methodLink "RingBridges" 326 ⟨"RingBridges$Frame", "belongTo", "(LRingBridges$Link;I)V"⟩],
  [.methodLink "RingBridges$Ring" 3 Lib.objectInit, .methodLink "RingBridges$Ring" 21 ⟨"RingBridges$Node", "<init>", "()V"⟩, .methodLink "RingBridges$Ring" 24 ⟨"RingBridges$Signal", "<init>", "()V"⟩, .methodLink "RingBridges$Ring" 35 ⟨"RingBridges$Ring", "placeOf", "(I)I"⟩, .methodLink "RingBridges$Ring" 39 ⟨"RingBridges$Ring", "nodeAt", "(I)LRingBridges$Node;"⟩, .methodLink "RingBridges$Ring" 43 ⟨"RingBridges$Node", "addFrame", "()LRingBridges$Frame;"⟩, .methodLink "RingBridges$Ring" 47 ⟨"RingBridges$Ring", "isFull", "()Z"⟩, .methodLink "RingBridges$Ring" 51 ⟨"RingBridges$Node", "begin", "(I)V"⟩, .methodLink "RingBridges$Ring" 65 ⟨"RingBridges$Ring", "fallSilent", "()V"⟩, .methodLink "RingBridges$Ring" 71 ⟨"RingBridges$Ring", "placeBehind", "(I)I"⟩, .methodLink "RingBridges$Ring" 74 ⟨"RingBridges$Ring", "startPurge", "()V"⟩, .methodLink "RingBridges$Ring" 90 ⟨"RingBridges$Node", "topUpper", "()I"⟩, .methodLink "RingBridges$Ring" 94 ⟨"RingBridges$Node", "lowerToken", "(LRingBridges$Signal;)V"⟩, .methodLink "RingBridges$Ring" 101 ⟨"RingBridges$Node", "firstPriority", "()I"⟩, .methodLink "RingBridges$Ring" 108 ⟨"RingBridges$Node", "moveFirstTo", "(LRingBridges$Frame;)V"⟩, .methodLink "RingBridges$Ring" 112 ⟨"RingBridges$Signal", "becomeFrame", "(I)V"⟩, .methodLink "RingBridges$Ring" 118 ⟨"RingBridges$Signal", "reserve", "(LRingBridges$Node;)V"⟩, .methodLink "RingBridges$Ring" 131 ⟨"RingBridges$Node", "push", "(II)V"⟩, .methodLink "RingBridges$Ring" 135 ⟨"RingBridges$Signal", "becomeToken", "(II)V"⟩],
  [.methodLink "RingBridges$Node" 3 Lib.objectInit, .methodLink "RingBridges$Node" 41 ⟨"RingBridges$Frame", "copyFrom", "(LRingBridges$Frame;)V"⟩],
  [.methodLink "RingBridges$Frame" 3 Lib.objectInit],
  [.methodLink "RingBridges$Signal" 3 Lib.objectInit, .methodLink "RingBridges$Signal" 28 ⟨"RingBridges$Signal", "clearMarks", "()V"⟩, .methodLink "RingBridges$Signal" 49 ⟨"RingBridges$Node", "firstPriority", "()I"⟩],
  [.methodLink "RingBridges$Link" 3 Lib.objectInit, .methodLink "RingBridges$Link" 17 ⟨"RingBridges$ByteRow", "<init>", "(I)V"⟩, .methodLink "RingBridges$Link" 45 ⟨"RingBridges$ByteRow", "clear", "()V"⟩, .methodLink "RingBridges$Link" 73 ⟨"RingBridges$ByteRow", "isFull", "()Z"⟩, .methodLink "RingBridges$Link" 77 ⟨"RingBridges$ByteRow", "add", "(I)V"⟩, .methodLink "RingBridges$Link" 80 ⟨"RingBridges$ByteRow", "dropFirst", "(I)V"⟩],
  [.methodLink "RingBridges$ByteRow" 1 Lib.objectInit, .methodLink "RingBridges$ByteRow" 23 ⟨"RingBridges$ByteRow", "isFull", "()Z"⟩],
  [.methodLink "RingBridgesModel" 1 Lib.objectInit, .methodLink "RingBridgesModel" 173 ⟨"RingBridgesModel", "isAddress", "(I)Z"⟩, .methodLink "RingBridgesModel" 177 ⟨"RingBridgesModel", "addressOf", "(I)I"⟩, .methodLink "RingBridgesModel" 181 ⟨"RingBridgesModel", "copyFrame", "(II)V"⟩, .methodLink "RingBridgesModel" 185 ⟨"RingBridgesModel", "nodeWith", "(II)I"⟩, .methodLink "RingBridgesModel" 189 ⟨"RingBridgesModel", "behind", "(I)I"⟩, .methodLink "RingBridgesModel" 192 ⟨"RingBridgesModel", "purge", "(I)V"⟩, .methodLink "RingBridgesModel" 196 ⟨"RingBridgesModel", "watch", "(II)Z"⟩, .methodLink "RingBridgesModel" 200 ⟨"RingBridgesModel", "wish", "(I)I"⟩, .methodLink "RingBridgesModel" 203 ⟨"RingBridgesModel", "setToken", "(III)V"⟩, .methodLink "RingBridgesModel" 207 ⟨"RingBridgesModel", "receive", "(II)V"⟩, .methodLink "RingBridgesModel" 210 ⟨"RingBridgesModel", "nodeAt", "(II)I"⟩, .methodLink "RingBridgesModel" 213 ⟨"RingBridgesModel", "token", "(II)V"⟩, .methodLink "RingBridgesModel" 216 ⟨"RingBridgesModel", "frame", "(II)V"⟩, .methodLink "RingBridgesModel" 219 ⟨"RingBridgesModel", "other", "(I)I"⟩, .methodLink "RingBridgesModel" 222 ⟨"RingBridgesModel", "queueNew", "(I)V"⟩, .methodLink "RingBridgesModel" 225 ⟨"RingBridgesModel", "makeFrame", "(IIIIII)V"⟩, .methodLink "RingBridgesModel" 229 ⟨"RingBridgesModel", "accept", "(III)V"⟩, .methodLink "RingBridgesModel" 232 ⟨"RingBridgesModel", "heard", "(III)V"⟩, .methodLink "RingBridgesModel" 235 ⟨"RingBridgesModel", "answer", "(II)V"⟩, .methodLink "RingBridgesModel" 238 ⟨"RingBridgesModel", "move", "(I)V"⟩, .methodLink "RingBridgesModel" 241 ⟨"RingBridgesModel", "connect", "(I)V"⟩, .methodLink "RingBridgesModel" 248 ⟨"RingBridgesModel", "isRing", "(I)Z"⟩, .methodLink "RingBridgesModel" 251 ⟨"RingBridgesModel", "isStation", "(I)Z"⟩, .methodLink "RingBridgesModel" 254 ⟨"RingBridgesModel", "come", "(II)V"⟩, .methodLink "RingBridgesModel" 257 ⟨"RingBridgesModel", "go", "(I)V"⟩, .methodLink "RingBridgesModel" 260 ⟨"RingBridgesModel", "isConnection", "(I)Z"⟩]]
def rb_wV : List (List Cond) := [[.instanceMethod ⟨"RingBridges", "ringNumbered", "(I)LRingBridges$Ring;"⟩, .selects "RingBridges" ⟨"RingBridges", "ringNumbered", "(I)LRingBridges$Ring;"⟩ ⟨"RingBridges", "ringNumbered", "(I)LRingBridges$Ring;"⟩, .static ⟨"RingBridges", "isStationAddress", "(I)Z"⟩, .instanceMethod ⟨"RingBridges", "ringHolding", "(I)LRingBridges$Ring;"⟩, .selects "RingBridges" ⟨"RingBridges", "ringHolding", "(I)LRingBridges$Ring;"⟩ ⟨"RingBridges", "ringHolding", "(I)LRingBridges$Ring;"⟩, .instanceMethod ⟨"RingBridges", "forgetStation", "(I)V"⟩, .selects "RingBridges" ⟨"RingBridges", "forgetStation", "(I)V"⟩ ⟨"RingBridges", "forgetStation", "(I)V"⟩, .instanceMethod ⟨"RingBridges", "knownRoute", "(II)I"⟩, .selects "RingBridges" ⟨"RingBridges", "knownRoute", "(II)I"⟩ ⟨"RingBridges", "knownRoute", "(II)I"⟩, .instanceMethod ⟨"RingBridges", "setRoute", "(III)V"⟩, .selects "RingBridges" ⟨"RingBridges", "setRoute", "(III)V"⟩ ⟨"RingBridges", "setRoute", "(III)V"⟩, .instanceMethod ⟨"RingBridges", "linkNumbered", "(I)LRingBridges$Link;"⟩, .selects "RingBridges" ⟨"RingBridges", "linkNumbered", "(I)LRingBridges$Link;"⟩ ⟨"RingBridges", "linkNumbered", "(I)LRingBridges$Link;"⟩, .instanceMethod ⟨"RingBridges", "nodeHolding", "(I)LRingBridges$Node;"⟩, .selects "RingBridges" ⟨"RingBridges", "nodeHolding", "(I)LRingBridges$Node;"⟩ ⟨"RingBridges", "nodeHolding", "(I)LRingBridges$Node;"⟩, .static ⟨"RingBridges", "queueAnswer", "(LRingBridges$Node;LRingBridges$Link;I)V"⟩, .instanceMethod ⟨"RingBridges", "moveRing", "(LRingBridges$Ring;)V"⟩, .selects "RingBridges" ⟨"RingBridges", "moveRing", "(LRingBridges$Ring;)V"⟩ ⟨"RingBridges", "moveRing", "(LRingBridges$Ring;)V"⟩, .instanceMethod ⟨"RingBridges", "queueData", "(LRingBridges$Link;)V"⟩, .selects "RingBridges" ⟨"RingBridges", "queueData", "(LRingBridges$Link;)V"⟩ ⟨"RingBridges", "queueData", "(LRingBridges$Link;)V"⟩, .instanceMethod ⟨"RingBridges", "meetFrame", "(LRingBridges$Ring;LRingBridges$Node;)V"⟩, .selects "RingBridges" ⟨"RingBridges", "meetFrame", "(LRingBridges$Ring;LRingBridges$Node;)V"⟩ ⟨"RingBridges", "meetFrame", "(LRingBridges$Ring;LRingBridges$Node;)V"⟩, .instanceMethod ⟨"RingBridges", "receive", "(LRingBridges$Ring;LRingBridges$Node;)Z"⟩, .selects "RingBridges" ⟨"RingBridges", "receive", "(LRingBridges$Ring;LRingBridges$Node;)Z"⟩ ⟨"RingBridges", "receive", "(LRingBridges$Ring;LRingBridges$Node;)Z"⟩, .instanceMethod ⟨"RingBridges", "spreadFrame", "(LRingBridges$Ring;LRingBridges$Node;LRingBridges$Frame;)Z"⟩, .selects "RingBridges" ⟨"RingBridges", "spreadFrame", "(LRingBridges$Ring;LRingBridges$Node;LRingBridges$Frame;)Z"⟩ ⟨"RingBridges", "spreadFrame", "(LRingBridges$Ring;LRingBridges$Node;LRingBridges$Frame;)Z"⟩, .instanceMethod ⟨"RingBridges", "carryFrame", "(LRingBridges$Ring;LRingBridges$Node;LRingBridges$Frame;)Z"⟩, .selects "RingBridges" ⟨"RingBridges", "carryFrame", "(LRingBridges$Ring;LRingBridges$Node;LRingBridges$Frame;)Z"⟩ ⟨"RingBridges", "carryFrame", "(LRingBridges$Ring;LRingBridges$Node;LRingBridges$Frame;)Z"⟩, .static ⟨"RingBridges", "queueReply", "(LRingBridges$Node;LRingBridges$Frame;)V"⟩, .instanceMethod ⟨"RingBridges", "learnRoute", "(LRingBridges$Frame;)V"⟩, .selects "RingBridges" ⟨"RingBridges", "learnRoute", "(LRingBridges$Frame;)V"⟩ ⟨"RingBridges", "learnRoute", "(LRingBridges$Frame;)V"⟩, .instanceMethod ⟨"RingBridges", "useFrame", "(LRingBridges$Node;LRingBridges$Frame;)V"⟩, .selects "RingBridges" ⟨"RingBridges", "useFrame", "(LRingBridges$Node;LRingBridges$Frame;)V"⟩ ⟨"RingBridges", "useFrame", "(LRingBridges$Node;LRingBridges$Frame;)V"⟩, .static ⟨"RingBridges", "firstPort", "(I)I"⟩, .instanceMethod ⟨"RingBridges", "ringBeyond", "(LRingBridges$Ring;I)LRingBridges$Ring;"⟩, .selects "RingBridges" ⟨"RingBridges", "ringBeyond", "(LRingBridges$Ring;I)LRingBridges$Ring;"⟩ ⟨"RingBridges", "ringBeyond", "(LRingBridges$Ring;I)LRingBridges$Ring;"⟩, .static ⟨"RingBridges", "withoutFirst", "(I)I"⟩, .static ⟨"RingBridges", "hasTwo", "(I)Z"⟩, .static ⟨"RingBridges", "withLast", "(II)I"⟩, .static ⟨"RingBridges", "backwards", "(I)I"⟩],
  [.instanceMethod ⟨"RingBridges$Ring", "<init>", "(I)V"⟩, .instanceMethod ⟨"RingBridges$Ring", "isFull", "()Z"⟩, .selects "RingBridges$Ring" ⟨"RingBridges$Ring", "isFull", "()Z"⟩ ⟨"RingBridges$Ring", "isFull", "()Z"⟩, .instanceMethod ⟨"RingBridges$Ring", "addNode", "(I)V"⟩, .selects "RingBridges$Ring" ⟨"RingBridges$Ring", "addNode", "(I)V"⟩ ⟨"RingBridges$Ring", "addNode", "(I)V"⟩, .instanceMethod ⟨"RingBridges$Ring", "placeOf", "(I)I"⟩, .selects "RingBridges$Ring" ⟨"RingBridges$Ring", "placeOf", "(I)I"⟩ ⟨"RingBridges$Ring", "placeOf", "(I)I"⟩, .instanceMethod ⟨"RingBridges$Ring", "removeNode", "(I)V"⟩, .selects "RingBridges$Ring" ⟨"RingBridges$Ring", "removeNode", "(I)V"⟩ ⟨"RingBridges$Ring", "removeNode", "(I)V"⟩, .instanceMethod ⟨"RingBridges$Ring", "fallSilent", "()V"⟩, .selects "RingBridges$Ring" ⟨"RingBridges$Ring", "fallSilent", "()V"⟩ ⟨"RingBridges$Ring", "fallSilent", "()V"⟩, .instanceMethod ⟨"RingBridges$Ring", "addFrameAt", "(I)LRingBridges$Frame;"⟩, .selects "RingBridges$Ring" ⟨"RingBridges$Ring", "addFrameAt", "(I)LRingBridges$Frame;"⟩ ⟨"RingBridges$Ring", "addFrameAt", "(I)LRingBridges$Frame;"⟩, .instanceMethod ⟨"RingBridges$Ring", "nodeAt", "(I)LRingBridges$Node;"⟩, .selects "RingBridges$Ring" ⟨"RingBridges$Ring", "nodeAt", "(I)LRingBridges$Node;"⟩ ⟨"RingBridges$Ring", "nodeAt", "(I)LRingBridges$Node;"⟩, .instanceMethod ⟨"RingBridges$Ring", "stayQuiet", "()V"⟩, .selects "RingBridges$Ring" ⟨"RingBridges$Ring", "stayQuiet", "()V"⟩ ⟨"RingBridges$Ring", "stayQuiet", "()V"⟩, .instanceMethod ⟨"RingBridges$Ring", "placeBehind", "(I)I"⟩, .selects "RingBridges$Ring" ⟨"RingBridges$Ring", "placeBehind", "(I)I"⟩ ⟨"RingBridges$Ring", "placeBehind", "(I)I"⟩, .instanceMethod ⟨"RingBridges$Ring", "meetToken", "(LRingBridges$Node;)V"⟩, .selects "RingBridges$Ring" ⟨"RingBridges$Ring", "meetToken", "(LRingBridges$Node;)V"⟩ ⟨"RingBridges$Ring", "meetToken", "(LRingBridges$Node;)V"⟩, .instanceMethod ⟨"RingBridges$Ring", "meetClaim", "(LRingBridges$Node;)V"⟩, .selects "RingBridges$Ring" ⟨"RingBridges$Ring", "meetClaim", "(LRingBridges$Node;)V"⟩ ⟨"RingBridges$Ring", "meetClaim", "(LRingBridges$Node;)V"⟩, .instanceMethod ⟨"RingBridges$Ring", "meetPurge", "(LRingBridges$Node;)V"⟩, .selects "RingBridges$Ring" ⟨"RingBridges$Ring", "meetPurge", "(LRingBridges$Node;)V"⟩ ⟨"RingBridges$Ring", "meetPurge", "(LRingBridges$Node;)V"⟩, .instanceMethod ⟨"RingBridges$Ring", "endFrame", "(LRingBridges$Node;)V"⟩, .selects "RingBridges$Ring" ⟨"RingBridges$Ring", "endFrame", "(LRingBridges$Node;)V"⟩ ⟨"RingBridges$Ring", "endFrame", "(LRingBridges$Node;)V"⟩, .instanceMethod ⟨"RingBridges$Ring", "startPurge", "()V"⟩, .selects "RingBridges$Ring" ⟨"RingBridges$Ring", "startPurge", "()V"⟩ ⟨"RingBridges$Ring", "startPurge", "()V"⟩],
  [.instanceMethod ⟨"RingBridges$Node", "isFull", "()Z"⟩, .selects "RingBridges$Node" ⟨"RingBridges$Node", "isFull", "()Z"⟩ ⟨"RingBridges$Node", "isFull", "()Z"⟩, .instanceMethod ⟨"RingBridges$Node", "addFrame", "()LRingBridges$Frame;"⟩, .selects "RingBridges$Node" ⟨"RingBridges$Node", "addFrame", "()LRingBridges$Frame;"⟩ ⟨"RingBridges$Node", "addFrame", "()LRingBridges$Frame;"⟩, .instanceMethod ⟨"RingBridges$Node", "<init>", "()V"⟩, .instanceMethod ⟨"RingBridges$Node", "begin", "(I)V"⟩, .selects "RingBridges$Node" ⟨"RingBridges$Node", "begin", "(I)V"⟩ ⟨"RingBridges$Node", "begin", "(I)V"⟩, .instanceMethod ⟨"RingBridges$Node", "topUpper", "()I"⟩, .selects "RingBridges$Node" ⟨"RingBridges$Node", "topUpper", "()I"⟩ ⟨"RingBridges$Node", "topUpper", "()I"⟩, .instanceMethod ⟨"RingBridges$Node", "lowerToken", "(LRingBridges$Signal;)V"⟩, .selects "RingBridges$Node" ⟨"RingBridges$Node", "lowerToken", "(LRingBridges$Signal;)V"⟩ ⟨"RingBridges$Node", "lowerToken", "(LRingBridges$Signal;)V"⟩, .instanceMethod ⟨"RingBridges$Node", "firstPriority", "()I"⟩, .selects "RingBridges$Node" ⟨"RingBridges$Node", "firstPriority", "()I"⟩ ⟨"RingBridges$Node", "firstPriority", "()I"⟩, .instanceMethod ⟨"RingBridges$Node", "moveFirstTo", "(LRingBridges$Frame;)V"⟩, .selects "RingBridges$Node" ⟨"RingBridges$Node", "moveFirstTo", "(LRingBridges$Frame;)V"⟩ ⟨"RingBridges$Node", "moveFirstTo", "(LRingBridges$Frame;)V"⟩, .instanceMethod ⟨"RingBridges$Node", "push", "(II)V"⟩, .selects "RingBridges$Node" ⟨"RingBridges$Node", "push", "(II)V"⟩ ⟨"RingBridges$Node", "push", "(II)V"⟩],
  [.instanceMethod ⟨"RingBridges$Frame", "begin", "(IIII)V"⟩, .selects "RingBridges$Frame" ⟨"RingBridges$Frame", "begin", "(IIII)V"⟩ ⟨"RingBridges$Frame", "begin", "(IIII)V"⟩, .instanceMethod ⟨"RingBridges$Frame", "copyFrom", "(LRingBridges$Frame;)V"⟩, .selects "RingBridges$Frame" ⟨"RingBridges$Frame", "copyFrom", "(LRingBridges$Frame;)V"⟩ ⟨"RingBridges$Frame", "copyFrom", "(LRingBridges$Frame;)V"⟩, .instanceMethod ⟨"RingBridges$Frame", "belongTo", "(LRingBridges$Link;I)V"⟩, .selects "RingBridges$Frame" ⟨"RingBridges$Frame", "belongTo", "(LRingBridges$Link;I)V"⟩ ⟨"RingBridges$Frame", "belongTo", "(LRingBridges$Link;I)V"⟩, .instanceMethod ⟨"RingBridges$Frame", "<init>", "()V"⟩],
  [.instanceMethod ⟨"RingBridges$Signal", "code", "()I"⟩, .selects "RingBridges$Signal" ⟨"RingBridges$Signal", "code", "()I"⟩ ⟨"RingBridges$Signal", "code", "()I"⟩, .instanceMethod ⟨"RingBridges$Signal", "reserve", "(LRingBridges$Node;)V"⟩, .selects "RingBridges$Signal" ⟨"RingBridges$Signal", "reserve", "(LRingBridges$Node;)V"⟩ ⟨"RingBridges$Signal", "reserve", "(LRingBridges$Node;)V"⟩, .instanceMethod ⟨"RingBridges$Signal", "<init>", "()V"⟩, .instanceMethod ⟨"RingBridges$Signal", "becomeFrame", "(I)V"⟩, .selects "RingBridges$Signal" ⟨"RingBridges$Signal", "becomeFrame", "(I)V"⟩ ⟨"RingBridges$Signal", "becomeFrame", "(I)V"⟩, .instanceMethod ⟨"RingBridges$Signal", "becomeToken", "(II)V"⟩, .selects "RingBridges$Signal" ⟨"RingBridges$Signal", "becomeToken", "(II)V"⟩ ⟨"RingBridges$Signal", "becomeToken", "(II)V"⟩, .instanceMethod ⟨"RingBridges$Signal", "clearMarks", "()V"⟩, .selects "RingBridges$Signal" ⟨"RingBridges$Signal", "clearMarks", "()V"⟩ ⟨"RingBridges$Signal", "clearMarks", "()V"⟩],
  [.instanceMethod ⟨"RingBridges$Link", "<init>", "(I)V"⟩, .instanceMethod ⟨"RingBridges$Link", "begin", "(IIII)V"⟩, .selects "RingBridges$Link" ⟨"RingBridges$Link", "begin", "(IIII)V"⟩ ⟨"RingBridges$Link", "begin", "(IIII)V"⟩, .instanceMethod ⟨"RingBridges$Link", "runTimer", "()V"⟩, .selects "RingBridges$Link" ⟨"RingBridges$Link", "runTimer", "()V"⟩ ⟨"RingBridges$Link", "runTimer", "()V"⟩, .instanceMethod ⟨"RingBridges$Link", "acceptData", "(II)I"⟩, .selects "RingBridges$Link" ⟨"RingBridges$Link", "acceptData", "(II)I"⟩ ⟨"RingBridges$Link", "acceptData", "(II)I"⟩, .instanceMethod ⟨"RingBridges$Link", "acceptAnswer", "(II)V"⟩, .selects "RingBridges$Link" ⟨"RingBridges$Link", "acceptAnswer", "(II)V"⟩ ⟨"RingBridges$Link", "acceptAnswer", "(II)V"⟩],
  [.instanceMethod ⟨"RingBridges$ByteRow", "isFull", "()Z"⟩, .selects "RingBridges$ByteRow" ⟨"RingBridges$ByteRow", "isFull", "()Z"⟩ ⟨"RingBridges$ByteRow", "isFull", "()Z"⟩, .instanceMethod ⟨"RingBridges$ByteRow", "add", "(I)V"⟩, .selects "RingBridges$ByteRow" ⟨"RingBridges$ByteRow", "add", "(I)V"⟩ ⟨"RingBridges$ByteRow", "add", "(I)V"⟩, .instanceMethod ⟨"RingBridges$ByteRow", "get", "(I)I"⟩, .selects "RingBridges$ByteRow" ⟨"RingBridges$ByteRow", "get", "(I)I"⟩ ⟨"RingBridges$ByteRow", "get", "(I)I"⟩, .instanceMethod ⟨"RingBridges$ByteRow", "dropFirst", "(I)V"⟩, .selects "RingBridges$ByteRow" ⟨"RingBridges$ByteRow", "dropFirst", "(I)V"⟩ ⟨"RingBridges$ByteRow", "dropFirst", "(I)V"⟩, .instanceMethod ⟨"RingBridges$ByteRow", "<init>", "(I)V"⟩, .instanceMethod ⟨"RingBridges$ByteRow", "clear", "()V"⟩, .selects "RingBridges$ByteRow" ⟨"RingBridges$ByteRow", "clear", "()V"⟩ ⟨"RingBridges$ByteRow", "clear", "()V"⟩],
  [.static ⟨"RingBridgesModel", "isAddress", "(I)Z"⟩, .static ⟨"RingBridgesModel", "addressOf", "(I)I"⟩, .instanceMethod ⟨"RingBridgesModel", "copyFrame", "(II)V"⟩, .selects "RingBridgesModel" ⟨"RingBridgesModel", "copyFrame", "(II)V"⟩ ⟨"RingBridgesModel", "copyFrame", "(II)V"⟩, .instanceMethod ⟨"RingBridgesModel", "nodeWith", "(II)I"⟩, .selects "RingBridgesModel" ⟨"RingBridgesModel", "nodeWith", "(II)I"⟩ ⟨"RingBridgesModel", "nodeWith", "(II)I"⟩, .instanceMethod ⟨"RingBridgesModel", "behind", "(I)I"⟩, .selects "RingBridgesModel" ⟨"RingBridgesModel", "behind", "(I)I"⟩ ⟨"RingBridgesModel", "behind", "(I)I"⟩, .instanceMethod ⟨"RingBridgesModel", "purge", "(I)V"⟩, .selects "RingBridgesModel" ⟨"RingBridgesModel", "purge", "(I)V"⟩ ⟨"RingBridgesModel", "purge", "(I)V"⟩, .instanceMethod ⟨"RingBridgesModel", "watch", "(II)Z"⟩, .selects "RingBridgesModel" ⟨"RingBridgesModel", "watch", "(II)Z"⟩ ⟨"RingBridgesModel", "watch", "(II)Z"⟩, .instanceMethod ⟨"RingBridgesModel", "wish", "(I)I"⟩, .selects "RingBridgesModel" ⟨"RingBridgesModel", "wish", "(I)I"⟩ ⟨"RingBridgesModel", "wish", "(I)I"⟩, .instanceMethod ⟨"RingBridgesModel", "setToken", "(III)V"⟩, .selects "RingBridgesModel" ⟨"RingBridgesModel", "setToken", "(III)V"⟩ ⟨"RingBridgesModel", "setToken", "(III)V"⟩, .instanceMethod ⟨"RingBridgesModel", "receive", "(II)V"⟩, .selects "RingBridgesModel" ⟨"RingBridgesModel", "receive", "(II)V"⟩ ⟨"RingBridgesModel", "receive", "(II)V"⟩, .instanceMethod ⟨"RingBridgesModel", "nodeAt", "(II)I"⟩, .selects "RingBridgesModel" ⟨"RingBridgesModel", "nodeAt", "(II)I"⟩ ⟨"RingBridgesModel", "nodeAt", "(II)I"⟩, .instanceMethod ⟨"RingBridgesModel", "token", "(II)V"⟩, .selects "RingBridgesModel" ⟨"RingBridgesModel", "token", "(II)V"⟩ ⟨"RingBridgesModel", "token", "(II)V"⟩, .instanceMethod ⟨"RingBridgesModel", "frame", "(II)V"⟩, .selects "RingBridgesModel" ⟨"RingBridgesModel", "frame", "(II)V"⟩ ⟨"RingBridgesModel", "frame", "(II)V"⟩, .static ⟨"RingBridgesModel", "other", "(I)I"⟩, .instanceMethod ⟨"RingBridgesModel", "queueNew", "(I)V"⟩, .selects "RingBridgesModel" ⟨"RingBridgesModel", "queueNew", "(I)V"⟩ ⟨"RingBridgesModel", "queueNew", "(I)V"⟩, .instanceMethod ⟨"RingBridgesModel", "makeFrame", "(IIIIII)V"⟩, .selects "RingBridgesModel" ⟨"RingBridgesModel", "makeFrame", "(IIIIII)V"⟩ ⟨"RingBridgesModel", "makeFrame", "(IIIIII)V"⟩, .instanceMethod ⟨"RingBridgesModel", "accept", "(III)V"⟩, .selects "RingBridgesModel" ⟨"RingBridgesModel", "accept", "(III)V"⟩ ⟨"RingBridgesModel", "accept", "(III)V"⟩, .instanceMethod ⟨"RingBridgesModel", "heard", "(III)V"⟩, .selects "RingBridgesModel" ⟨"RingBridgesModel", "heard", "(III)V"⟩ ⟨"RingBridgesModel", "heard", "(III)V"⟩, .instanceMethod ⟨"RingBridgesModel", "answer", "(II)V"⟩, .selects "RingBridgesModel" ⟨"RingBridgesModel", "answer", "(II)V"⟩ ⟨"RingBridgesModel", "answer", "(II)V"⟩, .instanceMethod ⟨"RingBridgesModel", "move", "(I)V"⟩, .selects "RingBridgesModel" ⟨"RingBridgesModel", "move", "(I)V"⟩ ⟨"RingBridgesModel", "move", "(I)V"⟩, .instanceMethod ⟨"RingBridgesModel", "connect", "(I)V"⟩, .selects "RingBridgesModel" ⟨"RingBridgesModel", "connect", "(I)V"⟩ ⟨"RingBridgesModel", "connect", "(I)V"⟩, .static ⟨"RingBridgesModel", "isRing", "(I)Z"⟩, .instanceMethod ⟨"RingBridgesModel", "isStation", "(I)Z"⟩, .selects "RingBridgesModel" ⟨"RingBridgesModel", "isStation", "(I)Z"⟩ ⟨"RingBridgesModel", "isStation", "(I)Z"⟩, .instanceMethod ⟨"RingBridgesModel", "come", "(II)V"⟩, .selects "RingBridgesModel" ⟨"RingBridgesModel", "come", "(II)V"⟩ ⟨"RingBridgesModel", "come", "(II)V"⟩, .instanceMethod ⟨"RingBridgesModel", "go", "(I)V"⟩, .selects "RingBridgesModel" ⟨"RingBridgesModel", "go", "(I)V"⟩ ⟨"RingBridgesModel", "go", "(I)V"⟩, .static ⟨"RingBridgesModel", "isConnection", "(I)Z"⟩]]
def rb_wO : List Cond := [.initialized "RingBridges", .initialized "RingBridges$Ring", .initialized "RingBridges$Node", .initialized "RingBridges$Frame", .initialized "RingBridges$Signal", .initialized "RingBridges$Link", .initialized "RingBridges$ByteRow", .initialized "RingBridgesModel", .classLink "RingBridges" 9 "RingBridges$Ring", .instantiable "RingBridges$Ring" 10, .classLink "RingBridges" 18 "RingBridges$Link", .instantiable "RingBridges$Link" 17, .classLink "RingBridges" 25 "[[I", .arrayClass .int, .arrayClass .boolean, .classLink "RingBridges$Link" 15 "RingBridges$ByteRow", .instantiable "RingBridges$ByteRow" 4, .classLink "RingBridges$Node" 9 "RingBridges$Frame", .instantiable "RingBridges$Frame" 11, .classLink "RingBridges$Ring" 15 "RingBridges$Node", .instantiable "RingBridges$Node" 7, .classLink "RingBridges$Ring" 22 "RingBridges$Signal", .instantiable "RingBridges$Signal" 8, .classLink "RingBridges$Signal" 9 "RingBridges$Frame"]
def rb_wL : List Cond := u_ws "RingBridges" rb_T0 4 ++ (u_ws "RingBridges$Ring" rb_T1 10 ++ (u_ws "RingBridges$Node" rb_T2 7 ++ (u_ws "RingBridges$Frame" rb_T3 11 ++ (u_ws "RingBridges$Signal" rb_T4 8 ++ (u_ws "RingBridges$Link" rb_T5 17 ++ (u_ws "RingBridges$ByteRow" rb_T6 4 ++ (u_ws "RingBridgesModel" rb_T7 55)))))))
def rb_wN : List Cond := [.methodLinkNest "RingBridges$Node" 17 ⟨"RingBridges$Frame", "<init>", "()V"⟩ "RingBridges", .methodLinkNest "RingBridges$Signal" 11 ⟨"RingBridges$Frame", "<init>", "()V"⟩ "RingBridges"]
def rb_wC : List Cond := (List.range rb_nm).map (fun k => .code (rb_y k) (rb_b k) (rb_ml k) (rb_rt k))
def rb_wX : List Cond := [.instanceMethod Lib.objectInit, .code Lib.objectInit ⟨#[0xb1]⟩ 1 none]
def rb_ws : List Cond := rb_wC ++ (rb_wF.flatten ++ (rb_wM.flatten ++ (rb_wV.flatten ++ (rb_wO ++ (rb_wL ++ rb_wX)))))
end
section
/-! the pure machine: a heap is a size, a count of slots, and the cells by their places 0, 1 ..; a cell is a va_E whose array kind is a number of my own; references are places -/
abbrev rb_H : Type := Nat × Nat × (Nat → va_E)
abbrev rb_S : Type := (Nat × List Value × List Value × rb_H) ⊕ ((Nat × List Value × List Value) ⊕ Option Value)
def rb_blank : va_E := .inr (1000, [])
def rb_go (pc : Nat) (ls st : List Value) (h : rb_H) : Option rb_S := some (.inl (pc, ls, st, h))
def rb_ok (v : Value) : Bool := match v with
  | .int _ => true
  | .null => true
  | .ref _ => true
  | _ => false
def rb_fit (ty : FieldType) (v : Value) : Bool := match ty, v with
  | .int, .int _ => true
  | .boolean, .int x => x == 0 || x == 1
  | .object _, .null => true
  | .object _, .ref _ => true
  | .array _, .null => true
  | .array _, .ref _ => true
  | _, _ => false
def rb_cmp (c : Jvm.ClassFile.Cond) (x y : Int32) : Bool := match c with
  | .eq => decide (x = y)
  | .ne => !decide (x = y)
  | .lt => decide (x < y)
  | .ge => decide (y ≤ x)
  | .gt => decide (y < x)
  | .le => decide (x ≤ y)
def rb_br (c : Bool) (tg nx : Nat) (ls st : List Value) (h : rb_H) : Option rb_S := match c with
  | true => rb_go tg ls st h
  | false => rb_go nx ls st h
def rb_ldi (nx j : Nat) (ls st : List Value) (h : rb_H) : Option rb_S := match ls[j]? with
  | some (.int x) => rb_go nx ls (.int x :: st) h
  | _ => none
def rb_lda (nx j : Nat) (ls st : List Value) (h : rb_H) : Option rb_S := match ls[j]? with
  | some (.ref x) => rb_go nx ls (.ref x :: st) h
  | some .null => rb_go nx ls (.null :: st) h
  | _ => none
def rb_sti (nx j : Nat) (ls st : List Value) (h : rb_H) : Option rb_S := match st with
  | .int x :: r => match Nat.blt j ls.length with
    | true => rb_go nx (ls.set j (.int x)) r h
    | false => none
  | _ => none
def rb_sta (nx j : Nat) (ls st : List Value) (h : rb_H) : Option rb_S := match st with
  | .ref x :: r => match Nat.blt j ls.length with
    | true => rb_go nx (ls.set j (.ref x)) r h
    | false => none
  | .null :: r => match Nat.blt j ls.length with
    | true => rb_go nx (ls.set j .null) r h
    | false => none
  | _ => none
def rb_inc (nx j : Nat) (kc : Int32) (ls st : List Value) (h : rb_H) : Option rb_S := match ls[j]? with
  | some (.int x) => rb_go nx (ls.set j (.int (x + kc))) st h
  | _ => none
def rb_bin (f : Int32 → Int32 → Int32) (nx : Nat) (ls st : List Value) (h : rb_H) : Option rb_S := match st with
  | .int y :: .int x :: r => rb_go nx ls (.int (f x y) :: r) h
  | _ => none
def rb_div (f : Int32 → Int32 → Int32) (nx : Nat) (ls st : List Value) (h : rb_H) : Option rb_S := match st with
  | .int y :: .int x :: r => match decide (y = 0) with
    | true => none
    | false => rb_go nx ls (.int (f x y) :: r) h
  | _ => none
def rb_out (i : Int32) (n : Nat) : Bool := decide (i < 0 ∨ n ≤ i.toNatClampNeg)
def rb_get (ci j : Nat) (nx : Nat) (ls st : List Value) (h : rb_H) : Option rb_S := match st with
  | .ref a :: r => match h.2.2 a with
    | .inr (c, fs) => match Nat.beq c ci with
      | true => match fs[j]? with
        | some v => rb_go nx ls (v :: r) h
        | none => none
      | false => none
    | _ => none
  | _ => none
def rb_put (ci j : Nat) (ty : FieldType) (nx : Nat) (ls st : List Value) (h : rb_H) : Option rb_S := match st with
  | v :: .ref a :: r => match rb_fit ty v with
    | true => match h.2.2 a with
      | .inr (c, fs) => match Nat.beq c ci with
        | true => match Nat.blt j fs.length with
          | true => rb_go nx ls r (h.1, h.2.1, va_up h.2.2 a (.inr (c, fs.set j v)))
          | false => none
        | false => none
      | _ => none
    | false => none
  | _ => none
def rb_ald (t : Nat) (nx : Nat) (ls st : List Value) (h : rb_H) : Option rb_S := match st with
  | .int i :: .ref a :: r => match h.2.2 a with
    | .inl (t', n, .inl f) => match Nat.beq t' t with
      | true => match rb_out i n with
        | true => none
        | false => rb_go nx ls (.int (f i.toNatClampNeg) :: r) h
      | false => none
    | _ => none
  | _ => none
def rb_ast (t : Nat) (ty : FieldType) (nx : Nat) (ls st : List Value) (h : rb_H) : Option rb_S := match st with
  | .int x :: .int i :: .ref a :: r => match rb_fit ty (.int x) with
    | true => match h.2.2 a with
      | .inl (t', n, .inl f) => match Nat.beq t' t with
        | true => match rb_out i n with
          | true => none
          | false => rb_go nx ls r (h.1, h.2.1, va_up h.2.2 a (.inl (t', n, .inl (upd f i.toNatClampNeg x))))
        | false => none
      | _ => none
    | false => none
  | _ => none
def rb_rald (nx : Nat) (ls st : List Value) (h : rb_H) : Option rb_S := match st with
  | .int i :: .ref a :: r => match h.2.2 a with
    | .inl (t, n, .inr (.inr (.inr (.inr f)))) => match Nat.ble 2 t && Nat.blt t 7 with
      | true => match rb_out i n with
        | true => none
        | false => rb_go nx ls (va_rf (f i.toNatClampNeg) :: r) h
      | false => none
    | _ => none
  | _ => none
def rb_rast (nx : Nat) (ls st : List Value) (h : rb_H) : Option rb_S := match st with
  | .ref v :: .int i :: .ref a :: r => match h.2.2 a with
    | .inl (t, n, .inr (.inr (.inr (.inr f)))) => match h.2.2 v with
      | .inr (c, _) => match rb_el t with
        | some c' => match Nat.beq c c' with
          | true => match rb_out i n with
            | true => none
            | false => rb_go nx ls r (h.1, h.2.1, va_up h.2.2 a (.inl (t, n, .inr (.inr (.inr (.inr (va_up f i.toNatClampNeg (some v))))))))
          | false => none
        | none => none
      | _ => none
    | _ => none
  | _ => none
def rb_len (nx : Nat) (ls st : List Value) (h : rb_H) : Option rb_S := match st with
  | .ref a :: r => match h.2.2 a with
    | .inl (t, n, .inl _) => match Nat.blt t 7 with
      | true => rb_go nx ls (.int (Int32.ofNat n) :: r) h
      | false => none
    | _ => none
  | _ => none
def rb_new (ci : Nat) (nx : Nat) (ls st : List Value) (h : rb_H) : Option rb_S :=
  rb_go nx ls (.ref h.1 :: st) (h.1 + 1, h.2.1 + (rb_df ci).length, va_up h.2.2 h.1 (.inr (ci, rb_df ci)))
def rb_nwa (t : Nat) (nx : Nat) (ls st : List Value) (h : rb_H) : Option rb_S := match st with
  | .int n :: r => match decide (n < 0) with
    | true => none
    | false => match Nat.blt 1000 n.toNatClampNeg with
      | true => none
      | false => rb_go nx ls (.ref h.1 :: r) (h.1 + 1, h.2.1 + n.toNatClampNeg, va_up h.2.2 h.1 (.inl (t, n.toNatClampNeg, .inl (fun _ => 0))))
  | _ => none
def rb_nwr (t : Nat) (nx : Nat) (ls st : List Value) (h : rb_H) : Option rb_S := match st with
  | .int n :: r => match decide (n < 0) with
    | true => none
    | false => match Nat.blt 1000 n.toNatClampNeg with
      | true => none
      | false => rb_go nx ls (.ref h.1 :: r) (h.1 + 1, h.2.1 + n.toNatClampNeg, va_up h.2.2 h.1 (.inl (t, n.toNatClampNeg, .inr (.inr (.inr (.inr (fun _ => none)))))))
  | _ => none
def rb_h2 (h : rb_H) (n1 n2 : Nat) : rb_H := (h.1 + 1 + n1, h.2.1 + n1 + n1 * n2, fun i => if i < h.1 then h.2.2 i else if i = h.1 then .inl (6, n1, .inr (.inr (.inr (.inr (fun j => if j < n1 then some (h.1 + 1 + j) else none))))) else if i < h.1 + 1 + n1 then .inl (0, n2, .inl (fun _ => 0)) else rb_blank)
def rb_nw2 (nx : Nat) (ls st : List Value) (h : rb_H) : Option rb_S := match st with
  | .int n2 :: .int n1 :: r => match decide (n1 < 1) || decide (n2 < 0) || Nat.blt 1000 n1.toNatClampNeg || Nat.blt 1000 n2.toNatClampNeg with
    | true => none
    | false => rb_go nx ls (.ref h.1 :: r) (rb_h2 h n1.toNatClampNeg n2.toNatClampNeg)
  | _ => none
def rb_args (ms n : Nat) (ls st : List Value) (h : rb_H) : Option rb_S := match Nat.ble n st.length with
  | true => match Nat.ble (st.drop n).length 8 with
    | true => match (st.drop n).all rb_ok with
      | true => some (.inr (.inl (ms, (st.take n).reverse, st.drop n)))
      | false => none
    | false => none
  | false => none
def rb_argV (ci ms n : Nat) (ls st : List Value) (h : rb_H) : Option rb_S := match (st.take n).reverse with
  | .ref a :: _ => match h.2.2 a with
    | .inr (c, _) => match Nat.beq c ci with
      | true => rb_args ms n ls st h
      | false => none
    | _ => none
  | _ => none
def rb_sw (x : Int32) (ps : List (Int32 × Nat)) (d : Nat) : Nat := match ps with
  | [] => d
  | q :: r => match decide (x = q.1) with
    | true => q.2
    | false => rb_sw x r d
def rb_step (k : Nat) (al : Bool) (i : Jvm.ClassFile.Instr) (nx a b : Nat) (kc : Int32) (ls st : List Value) (h : rb_H) : Option rb_S := match i with
  | .iconst _ => rb_go nx ls (.int kc :: st) h
  | .bipush _ => rb_go nx ls (.int kc :: st) h
  | .sipush _ => rb_go nx ls (.int kc :: st) h
  | .aconst_null => rb_go nx ls (.null :: st) h
  | .iload j => rb_ldi nx j ls st h
  | .iload_n j => rb_ldi nx j.val ls st h
  | .aload j => rb_lda nx j ls st h
  | .aload_n j => rb_lda nx j.val ls st h
  | .istore j => rb_sti nx j ls st h
  | .istore_n j => rb_sti nx j.val ls st h
  | .astore j => rb_sta nx j ls st h
  | .astore_n j => rb_sta nx j.val ls st h
  | .iinc j _ => rb_inc nx j kc ls st h
  | .iadd => rb_bin (fun x y => x + y) nx ls st h
  | .isub => rb_bin (fun x y => x - y) nx ls st h
  | .imul => rb_bin (fun x y => x * y) nx ls st h
  | .iand => rb_bin (fun x y => x &&& y) nx ls st h
  | .ior => rb_bin (fun x y => x ||| y) nx ls st h
  | .ishl => rb_bin (fun x y => x <<< (y &&& 31)) nx ls st h
  | .ishr => rb_bin (fun x y => x >>> (y &&& 31)) nx ls st h
  | .idiv => rb_div (fun x y => x / y) nx ls st h
  | .irem => rb_div (fun x y => x - x / y * y) nx ls st h
  | .dup => match st with
    | v :: r => match rb_ok v with
      | true => rb_go nx ls (v :: v :: r) h
      | false => none
    | _ => none
  | .pop => match st with
    | v :: r => match rb_ok v with
      | true => rb_go nx ls r h
      | false => none
    | _ => none
  | .dup_x1 => match st with
    | v :: w :: r => match rb_ok v && rb_ok w with
      | true => rb_go nx ls (v :: w :: v :: r) h
      | false => none
    | _ => none
  | .dup_x2 => match st with
    | v :: w :: u :: r => match rb_ok v && rb_ok w && rb_ok u with
      | true => rb_go nx ls (v :: w :: u :: v :: r) h
      | false => none
    | _ => none
  | .dup2 => match st with
    | v :: w :: r => match rb_ok v && rb_ok w with
      | true => rb_go nx ls (v :: w :: v :: w :: r) h
      | false => none
    | _ => none
  | .goto _ => rb_go a ls st h
  | .if_icmp c _ => match st with
    | .int y :: .int x :: r => rb_br (rb_cmp c x y) a nx ls r h
    | _ => none
  | .ifCond c _ => match st with
    | .int x :: r => rb_br (rb_cmp c x 0) a nx ls r h
    | _ => none
  | .ifnull _ => match st with
    | .null :: r => rb_go a ls r h
    | .ref _ :: r => rb_go nx ls r h
    | _ => none
  | .ifnonnull _ => match st with
    | .null :: r => rb_go nx ls r h
    | .ref _ :: r => rb_go a ls r h
    | _ => none
  | .tableswitch _ _ _ _ => match st with
    | .int x :: r => rb_go (rb_sw x (rb_swt a) b) ls r h
    | _ => none
  | .lookupswitch _ _ => match st with
    | .int x :: r => rb_go (rb_sw x (rb_swt a) b) ls r h
    | _ => none
  | .getfield _ => rb_get a b nx ls st h
  | .putfield _ => rb_put a b (rb_tt a b) nx ls st h
  | .iaload => rb_ald 0 nx ls st h
  | .baload => rb_ald 1 nx ls st h
  | .iastore => rb_ast 0 .int nx ls st h
  | .bastore => rb_ast 1 .boolean nx ls st h
  | .aaload => rb_rald nx ls st h
  | .aastore => rb_rast nx ls st h
  | .arraylength => rb_len nx ls st h
  | .new _ => match al with
    | true => rb_new a nx ls st h
    | false => none
  | .newarray _ => match al with
    | true => rb_nwa a nx ls st h
    | false => none
  | .anewarray _ => match al with
    | true => rb_nwr a nx ls st h
    | false => none
  | .multianewarray _ _ => match al with
    | true => rb_nw2 nx ls st h
    | false => none
  | .invokestatic _ => rb_args a b ls st h
  | .invokevirtual _ => rb_argV (rb_mc a) a b ls st h
  | .invokespecial _ => match Nat.beq a 999 with
    | true => match st with
      | .ref _ :: r => match Nat.ble r.length 8 with
        | true => match r.all rb_ok with
          | true => rb_go nx ls r h
          | false => none
        | false => none
      | _ => none
    | false => match !al && decide (kc = 1) with
      | true => none
      | false => match (st.take b).reverse with
        | .ref _ :: _ => rb_args a b ls st h
        | _ => none
  | .ireturn => match st with
    | [.int v] => match rb_rt k with
      | some ty => match rb_fit ty (.int v) with
        | true => some (.inr (.inr (some (.int v))))
        | false => none
      | none => none
    | _ => none
  | .areturn => match st with
    | [.ref v] => match rb_rt k with
      | some (.object _) => some (.inr (.inr (some (.ref v))))
      | _ => none
    | [.null] => match rb_rt k with
      | some (.object _) => some (.inr (.inr (some .null)))
      | _ => none
    | _ => none
  | .return_ => match st, rb_rt k with
    | [], none => some (.inr (.inr none))
    | _, _ => none
  | _ => none
def rb_isinv (i : Jvm.ClassFile.Instr) : Bool := match i with
  | .invokestatic _ => true
  | .invokevirtual _ => true
  | .invokespecial _ => true
  | _ => false
def rb_isret (i : Jvm.ClassFile.Instr) : Bool := match i with
  | .ireturn => true
  | .areturn => true
  | .return_ => true
  | _ => false
def rb_ex (C : Nat → List Value → rb_H → Option Value → rb_H → Prop) (al : Bool) (k : Nat) : Nat → Nat → List Value → List Value → rb_H → Option Value → rb_H → Prop
  | 0, _, _, _, _, _, _ => False
  | n + 1, pc, ls, st, h, r, h' => match rb_ins k pc with
    | none => False
    | some q => match rb_step k al q.1 q.2.1 q.2.2.1 q.2.2.2.1 q.2.2.2.2 ls st h with
      | none => False
      | some (.inl x) => rb_ex C al k n x.1 x.2.1 x.2.2.1 x.2.2.2 r h'
      | some (.inr (.inl x)) => rb_isinv q.1 = true ∧ ∃ (v : Option Value) (h1 : rb_H), C x.1 x.2.1 h v h1 ∧ rb_ex C al k n q.2.1 ls (v.toList ++ x.2.2) h1 r h'
      | some (.inr (.inr v)) => rb_isret q.1 = true ∧ r = v ∧ h' = h
def rb_ent (k : Nat) (as : List Value) : List Value := as ++ List.replicate (rb_ml k - as.length) (.retAddr 0)
def rb_rel (al : Bool) : Nat → Nat → List Value → rb_H → Option Value → rb_H → Prop
  | 0, _, _, _, _, _ => False
  | d + 1, k, as, h, r, h' => as.all rb_ok = true ∧ as.length ≤ rb_ml k ∧ ∃ n, rb_ex (rb_rel al d) al k n 0 (rb_ent k as) [] h r h'
end
section
/-! where the pure machine answers, the machine does -/
def rb_rv (b : Nat) (v : Value) : Value := match v with
  | .ref a => .ref (b + a)
  | w => w
def rb_rc (b : Nat) (cA : Nat → ClassId) (x : va_E) : va_E := match x with
  | .inl (t, n, .inr (.inr (.inr (.inr f)))) => .inl (cA t, n, .inr (.inr (.inr (.inr (fun i => (f i).map (fun a => b + a))))))
  | .inl (t, n, .inr (.inr (.inr (.inl f)))) => .inl (cA t, n, .inr (.inr (.inr (.inl f))))
  | .inl (t, n, .inr (.inr (.inl f))) => .inl (cA t, n, .inr (.inr (.inl f)))
  | .inl (t, n, .inr (.inl f)) => .inl (cA t, n, .inr (.inl f))
  | .inl (t, n, .inl f) => .inl (cA t, n, .inl f)
  | .inr (c, fs) => .inr (c, fs.map (rb_rv b))
def rb_w (b : Nat) (cA : Nat → ClassId) (h : rb_H) : va_W := (List.range h.1).map (fun i => (b + i, rb_rc b cA (h.2.2 i)))
theorem rb_w_len (b : Nat) (cA : Nat → ClassId) (h : rb_H) : (rb_w b cA h).length = h.1 := by simp [rb_w]
theorem rb_w_get {b : Nat} {cA : Nat → ClassId} {h : rb_H} {i : Nat} (hi : i < h.1) : (rb_w b cA h)[i]? = some (b + i, rb_rc b cA (h.2.2 i)) := by
  simp [rb_w, List.getElem?_map, List.getElem?_range hi]
theorem rb_w_set {b : Nat} {cA : Nat → ClassId} {h : rb_H} {i : Nat} (hi : i < h.1) (x : va_E) : (rb_w b cA h).set i (b + i, rb_rc b cA x) = rb_w b cA (h.1, h.2.1, va_up h.2.2 i x) := by
  apply List.ext_getElem?
  intro j
  by_cases hj : j < h.1
  · rw [rb_w_get (h := (h.1, h.2.1, va_up h.2.2 i x)) hj, List.getElem?_set]
    by_cases hij : i = j
    · subst hij
      simp [rb_w_len, hi, va_up]
    · simp [hij, rb_w_get hj, va_up, Ne.symm hij]
  · rw [List.getElem?_eq_none (by rw [List.length_set, rb_w_len]; omega), List.getElem?_eq_none (by rw [rb_w_len]; show h.1 ≤ j; omega)]
theorem rb_w_push {b : Nat} {cA : Nat → ClassId} (h : rb_H) (sl : Nat) (x : va_E) : rb_w b cA h ++ [(b + h.1, rb_rc b cA x)] = rb_w b cA (h.1 + 1, sl, va_up h.2.2 h.1 x) := by
  apply List.ext_getElem?
  intro j
  by_cases hj : j < h.1
  · rw [rb_w_get (h := (h.1 + 1, sl, va_up h.2.2 h.1 x)) (show j < h.1 + 1 by omega), List.getElem?_append_left (by rw [rb_w_len]; exact hj), rb_w_get hj]
    simp [va_up, Nat.ne_of_lt hj]
  · by_cases hj2 : j = h.1
    · subst hj2
      rw [rb_w_get (h := (h.1 + 1, sl, va_up h.2.2 h.1 x)) (show h.1 < h.1 + 1 by omega), List.getElem?_append_right (by rw [rb_w_len]; exact Nat.le_refl _), rb_w_len, Nat.sub_self]
      simp [va_up]
    · rw [List.getElem?_eq_none (by rw [List.length_append, rb_w_len]; simp; omega), List.getElem?_eq_none (by rw [rb_w_len]; show h.1 + 1 ≤ j; omega)]
def rb_L (b : Nat) (ls : List Value) (arr : Array Slot) : Prop := arr.size = ls.length ∧ lv_wf arr ∧ ∀ (i : Nat) (v : Value), ls[i]? = some v → rb_ok v = true → arr[i]? = some (.val (rb_rv b v))
def rb_ll (b : Nat) (ls : List Value) : List (Nat × Value) := (List.range ls.length).filterMap (fun i => match ls[i]? with
  | some v => if rb_ok v = true then some (i, rb_rv b v) else none
  | none => none)
theorem rb_ll_mem {b : Nat} {ls : List Value} {q : Nat × Value} : q ∈ rb_ll b ls ↔ ∃ v, ls[q.1]? = some v ∧ rb_ok v = true ∧ q.2 = rb_rv b v := by
  unfold rb_ll
  rw [List.mem_filterMap]
  constructor
  · rintro ⟨i, hi, h⟩
    cases hv : ls[i]? with
    | none => rw [hv] at h; cases h
    | some v =>
      rw [hv] at h
      by_cases ho : rb_ok v = true
      · simp only [ho, if_true] at h
        cases h
        exact ⟨v, hv, ho, rfl⟩
      · simp [ho] at h
  · rintro ⟨v, h1, h2, h3⟩
    refine ⟨q.1, List.mem_range.mpr (List.getElem?_eq_some_iff.mp h1).1, ?_⟩
    rw [h1]
    simp only [h2, if_true]
    rw [← h3]
theorem rb_L.lv {b : Nat} {ls : List Value} {arr : Array Slot} (h : rb_L b ls arr) : lv_has arr ls.length (rb_ll b ls) := by
  refine ⟨h.1, h.2.1, fun q hq => ?_⟩
  obtain ⟨v, h1, h2, h3⟩ := rb_ll_mem.mp hq
  rw [h3]
  exact h.2.2 _ _ h1 h2
theorem rb_rv_cat {b : Nat} {v : Value} (h : rb_ok v = true) : (rb_rv b v).category = 1 := by
  cases v <;> first | rfl | (simp [rb_ok] at h)
theorem rb_L.set {b : Nat} {ls : List Value} {arr : Array Slot} {i : Nat} {v : Value} (hi : i < ls.length) (h' : lv_has arr ls.length ((i, rb_rv b v) :: (rb_ll b ls).filter (fun q => !(q.1 == i) && !(q.1 + 1 == i && q.2.category == 2)))) : rb_L b (ls.set i v) arr := by
  refine ⟨by rw [List.length_set]; exact h'.1, h'.2.1, fun j w hj hw => ?_⟩
  by_cases hij : i = j
  · subst hij
    rw [List.getElem?_set_self hi] at hj
    cases hj
    exact h'.2.2 _ List.mem_cons_self
  · rw [List.getElem?_set_ne hij] at hj
    refine h'.2.2 (j, rb_rv b w) (List.mem_cons_of_mem _ (List.mem_filter.mpr ⟨rb_ll_mem.mpr ⟨w, hj, hw, rfl⟩, ?_⟩))
    have h1 := rb_rv_cat (b := b) hw
    have h2 : (j == i) = false := by simp; exact fun q => hij q.symm
    simp [h1, h2]
    try (intro q; exact absurd q (fun z => hij z.symm))
theorem rb_L.at {b : Nat} {ls : List Value} {arr : Array Slot} (h : rb_L b ls arr) {i : Nat} {v : Value} (hv : ls[i]? = some v) (ho : rb_ok v = true) : arr[i]? = some (.val (rb_rv b v)) := h.2.2 i v hv ho
theorem rb_fit_spec {ty : FieldType} {v : Value} (b : Nat) (h : rb_fit ty v = true) : narrow ty (rb_rv b v) = rb_rv b v ∧ fits ty (rb_rv b v) = true := by
  cases ty <;> cases v <;> first | (exact ⟨rfl, rfl⟩) | (simp [rb_fit] at h; done) | skip
  simp [rb_fit] at h
  rcases h with h | h
  · subst h
    exact ⟨(by decide : narrow FieldType.boolean (.int 0) = .int 0), (by decide : fits FieldType.boolean (.int 0) = true)⟩
  · subst h
    exact ⟨(by decide : narrow FieldType.boolean (.int 1) = .int 1), (by decide : fits FieldType.boolean (.int 1) = true)⟩
def rb_tys (cA : Nat → ClassId) : List (ClassId × FieldType) := (List.range 7).map (fun t => (cA t, rb_aty t))
theorem rb_tys_at (cA : Nat → ClassId) {t : Nat} (h : t < 7) : (rb_tys cA)[t]? = some (cA t, rb_aty t) := by
  simp [rb_tys, List.getElem?_map, List.getElem?_range h]
def rb_Inv (D : va_G) (cA : Nat → ClassId) (b : Nat) (A : Nat → Prop) (H0 : Heap) (h0 h : rb_H) (H : Heap) (locs : List Loc) (cells slots : Nat) : Prop :=
  va_P D rb_cl (rb_w b cA h) H ∧ va_D A (rb_w b cA h) ∧ va_S A H0 H locs ∧ (∀ i, h.1 ≤ i → h.2.2 i = rb_blank) ∧ h0.1 + cells = h.1 ∧ h0.2.1 + slots = h.2.1
theorem rb_inO {h : rb_H} {a ci : Nat} {fs : List Value} (hb : ∀ i, h.1 ≤ i → h.2.2 i = rb_blank) (he : h.2.2 a = .inr (ci, fs)) (hc : ci < 1000) : a < h.1 := by
  refine Nat.not_le.mp fun q => ?_
  have h1 := hb a q
  rw [he] at h1
  unfold rb_blank at h1
  have h2 := Sum.inr.inj h1
  have h3 : ci = 1000 := congrArg Prod.fst h2
  omega
theorem rb_inA {h : rb_H} {a : Nat} {x : ClassId × vp_A} (hb : ∀ i, h.1 ≤ i → h.2.2 i = rb_blank) (he : h.2.2 a = .inl x) : a < h.1 := by
  refine Nat.not_le.mp fun q => ?_
  have h1 := hb a q
  rw [he] at h1
  unfold rb_blank at h1
  cases h1
end
section
def rb_ilen (i : Jvm.ClassFile.Instr) : Nat := match i with
  | .bipush _ => 2
  | .sipush _ => 3
  | .iload _ => 2
  | .aload _ => 2
  | .istore _ => 2
  | .astore _ => 2
  | .iinc _ _ => 3
  | .goto _ => 3
  | .if_icmp _ _ => 3
  | .ifCond _ _ => 3
  | .ifnull _ => 3
  | .ifnonnull _ => 3
  | .getfield _ => 3
  | .putfield _ => 3
  | .new _ => 3
  | .anewarray _ => 3
  | .newarray _ => 2
  | .multianewarray _ _ => 4
  | .invokestatic _ => 3
  | .invokevirtual _ => 3
  | .invokespecial _ => 3
  | _ => 1
def rb_isw (i : Jvm.ClassFile.Instr) : Bool := match i with
  | .tableswitch _ _ _ _ => true
  | .lookupswitch _ _ => true
  | _ => false
def rb_hasO (w : Jvm.Cond) : Bool := rb_wO.any (fun x => decide (x = w))
def rb_hasIn (L : List (List Jvm.Cond)) (c : Nat) (w : Jvm.Cond) : Bool := (L.getD c []).any (fun x => decide (x = w))
theorem rb_hasIn_mem {L : List (List Jvm.Cond)} {c : Nat} {w : Jvm.Cond} (h : rb_hasIn L c w = true) : w ∈ L.flatten := by
  obtain ⟨x, hx, he⟩ := List.any_eq_true.mp h
  have := of_decide_eq_true he
  subst this
  by_cases hc : c < L.length
  · refine List.mem_flatten.mpr ⟨L.getD c [], ?_, hx⟩
    rw [List.getD_eq_getElem?_getD, List.getElem?_eq_getElem hc]
    exact List.getElem_mem hc
  · rw [List.getD_eq_getElem?_getD, List.getElem?_eq_none (by omega)] at hx
    cases hx
theorem rb_hasO_mem {w : Jvm.Cond} (h : rb_hasO w = true) : w ∈ rb_ws := by
  obtain ⟨x, hx, he⟩ := List.any_eq_true.mp h
  have := of_decide_eq_true he
  subst this
  exact List.mem_append_right _ (List.mem_append_right _ (List.mem_append_right _ (List.mem_append_right _ (List.mem_append_left _ hx))))
theorem rb_hasF_mem {c : Nat} {w : Jvm.Cond} (h : rb_hasIn rb_wF c w = true) : w ∈ rb_ws := List.mem_append_right _ (List.mem_append_left _ (rb_hasIn_mem h))
theorem rb_hasM_mem {c : Nat} {w : Jvm.Cond} (h : rb_hasIn rb_wM c w = true) : w ∈ rb_ws := List.mem_append_right _ (List.mem_append_right _ (List.mem_append_left _ (rb_hasIn_mem h)))
theorem rb_hasV_mem {c : Nat} {w : Jvm.Cond} (h : rb_hasIn rb_wV c w = true) : w ∈ rb_ws := List.mem_append_right _ (List.mem_append_right _ (List.mem_append_right _ (List.mem_append_left _ (rb_hasIn_mem h))))
def rb_hasN (w : Jvm.Cond) : Bool := rb_wN.any (fun x => decide (x = w))
theorem rb_hasN_mem {w : Jvm.Cond} (h : rb_hasN w = true) : w ∈ rb_wN := by
  obtain ⟨x, hx, he⟩ := List.any_eq_true.mp h
  have := of_decide_eq_true he
  subst this
  exact hx
def rb_fok (k idx a b : Nat) : Bool := match rb_cl[a]? with
  | some q => Nat.blt b q.2.2 && decide ((q.2.1 b).1 = q.1) && rb_hasIn rb_wF (rb_mc k) (.fieldLink (rb_on k) idx q.1 (q.2.1 b).2.1 (q.2.1 b).2.2.1)
  | none => false
def rb_pok (k a b : Nat) : Bool := match rb_cl[a]? with
  | some q => !(q.2.1 b).2.2.2 || (decide ((rb_y k).name = "<init>") && decide (q.1 = rb_on k))
  | none => false
def rb_nok (k idx a : Nat) : Bool := match rb_cl[a]? with
  | some q => rb_hasO (.classLink (rb_on k) idx q.1) && rb_hasO (.instantiable q.1 q.2.2) && rb_hasO (.initialized q.1)
  | none => false
def rb_aok (k idx a : Nat) : Bool := match rb_el a with
  | some ci => match rb_cl[ci]? with
    | some q => rb_hasO (.classLink (rb_on k) idx q.1) && decide (rb_aty a = .object q.1) && Nat.blt a 7 && decide (q.1 ∈ rb_aos)
    | none => false
  | none => false
def rb_cok (a : Nat) (np : Nat) : Bool := Nat.blt a rb_nm && rb_hasO (.initialized (rb_y a).cls) && decide ((rb_y a).cls ≠ "java/lang/invoke/MethodHandle") && decide ((rb_y a).cls ≠ "java/lang/invoke/VarHandle") && decide ((parseMethodDescriptor (rb_y a).desc).map (fun d => d.parameters.length) = some np) && Nat.blt (rb_ml a) 21
def rb_lok (k idx a : Nat) : Bool := rb_hasIn rb_wM (rb_mc k) (.methodLink (rb_on k) idx (rb_y a))
def rb_vok (a : Nat) : Bool := match rb_cl[rb_mc a]? with
  | some q => decide ((rb_y a).cls = q.1) && rb_hasIn rb_wV (rb_mc a) (.selects q.1 (rb_y a) (rb_y a)) && rb_hasIn rb_wV (rb_mc a) (.instanceMethod (rb_y a))
  | none => false
def rb_more (k pc : Nat) (i : Jvm.ClassFile.Instr) (a b : Nat) (kc : Int32) : Bool := match i with
  | .iconst n => decide (Int32.ofInt n = kc)
  | .bipush n => decide ((Int8.ofInt n).toInt32 = kc)
  | .sipush n => decide ((Int16.ofInt n).toInt32 = kc)
  | .iinc _ n => decide (Int32.ofInt n = kc)
  | .goto o => decide ((pc : Int) + o = (a : Int))
  | .if_icmp _ o => decide ((pc : Int) + o = (a : Int))
  | .ifCond _ o => decide ((pc : Int) + o = (a : Int))
  | .ifnull o => decide ((pc : Int) + o = (a : Int))
  | .ifnonnull o => decide ((pc : Int) + o = (a : Int))
  | .getfield idx => rb_fok k idx a b
  | .putfield idx => rb_fok k idx a b && rb_pok k a b
  | .new idx => rb_nok k idx a
  | .newarray t => match t with
    | .int => Nat.beq a 0 && rb_hasO (.arrayClass .int)
    | .boolean => Nat.beq a 1 && rb_hasO (.arrayClass .boolean)
    | _ => false
  | .anewarray idx => rb_aok k idx a
  | .multianewarray idx n => Nat.beq n 2 && rb_hasO (.classLink (rb_on k) idx "[[I")
  | .invokestatic idx => rb_cok a b && rb_lok k idx a && decide ((rb_y a).cls = rb_on k) && rb_hasIn rb_wV (rb_mc a) (.static (rb_y a))
  | .invokevirtual idx => Nat.blt 0 b && rb_cok a (b - 1) && rb_lok k idx a && rb_vok a
  | .invokespecial idx => (Nat.beq a 999 && rb_hasIn rb_wM (rb_mc k) (.methodLink (rb_on k) idx Lib.objectInit)) || (Nat.blt 0 b && rb_cok a (b - 1) && ((!decide (kc = 1) && rb_lok k idx a) || (decide (kc = 1) && rb_hasN (.methodLinkNest (rb_on k) idx (rb_y a) "RingBridges"))) && decide ((rb_y a).name = "<init>") && rb_hasIn rb_wV (rb_mc a) (.instanceMethod (rb_y a)) && decide (rb_rt a = none))
  | .tableswitch d lo hi os => decide ((pc : Int) + d = (b : Int)) && decide ((rb_swt a).length = os.size) && decide (hi + 1 = lo + os.size) && (List.range os.size).all (fun j => match (rb_swt a)[j]?, os[j]? with
    | some q, some o => decide (q.1.toInt = lo + j) && decide ((pc : Int) + o = (q.2 : Int))
    | _, _ => false)
  | .lookupswitch d ps => decide ((pc : Int) + d = (b : Int)) && (ps.toList.zip (ps.toList.drop 1)).all (fun q => decide (q.1.1 < q.2.1)) && decide (ps.toList = (rb_swt a).map (fun q => (q.1.toInt, (q.2 : Int) - pc)))
  | _ => true
def rb_chk (k pc : Nat) (q : rb_I) : Bool := (match decode (rb_b k) pc with
  | .ok x => decide (x.1 = q.1) && (rb_isw q.1 || (Nat.beq x.2 (rb_ilen q.1) && Nat.beq q.2.1 (pc + x.2)))
  | .error _ => false) && rb_more k pc q.1 q.2.2.1 q.2.2.2.1 q.2.2.2.2
theorem rb_chk_dec {k pc : Nat} {q : rb_I} (h : rb_chk k pc q = true) (hs : rb_isw q.1 = false) : decode (rb_b k) pc = .ok (q.1, rb_ilen q.1) ∧ q.2.1 = pc + rb_ilen q.1 ∧ rb_more k pc q.1 q.2.2.1 q.2.2.2.1 q.2.2.2.2 = true := by
  unfold rb_chk at h
  rw [Bool.and_eq_true] at h
  obtain ⟨h1, h2⟩ := h
  cases hd : decode (rb_b k) pc with
  | error x => rw [hd] at h1; cases h1
  | ok x =>
    rw [hd] at h1
    simp only [hs, Bool.false_or, Bool.and_eq_true, decide_eq_true_eq] at h1
    obtain ⟨e1, e2, e3⟩ := h1
    have f2 := Nat.eq_of_beq_eq_true e2
    have f3 := Nat.eq_of_beq_eq_true e3
    clear e2 e3
    obtain ⟨x1, x2⟩ := x
    dsimp only at e1 f2 f3
    subst e1
    subst f2
    exact ⟨rfl, f3, h2⟩
theorem rb_chk_sw {k pc : Nat} {q : rb_I} (h : rb_chk k pc q = true) : ∃ len, decode (rb_b k) pc = .ok (q.1, len) ∧ rb_more k pc q.1 q.2.2.1 q.2.2.2.1 q.2.2.2.2 = true := by
  unfold rb_chk at h
  rw [Bool.and_eq_true] at h
  obtain ⟨h1, h2⟩ := h
  cases hd : decode (rb_b k) pc with
  | error x => rw [hd] at h1; cases h1
  | ok x =>
    rw [hd] at h1
    simp only [Bool.and_eq_true, decide_eq_true_eq] at h1
    obtain ⟨x1, x2⟩ := x
    obtain ⟨e1, -⟩ := h1
    dsimp only at e1
    subst e1
    exact ⟨x2, rfl, h2⟩
end
section
/-! what the tables say -/
theorem rb_cl_len : rb_cl.length ≤ 1000 := by decide
theorem rb_cl_cases {ci : Nat} {q : vw_C} (h : rb_cl[ci]? = some q) : (ci = 0 ∧ q = ("RingBridges", rb_T0, 4)) ∨ (ci = 1 ∧ q = ("RingBridges$Ring", rb_T1, 10)) ∨ (ci = 2 ∧ q = ("RingBridges$Node", rb_T2, 7)) ∨ (ci = 3 ∧ q = ("RingBridges$Frame", rb_T3, 11)) ∨ (ci = 4 ∧ q = ("RingBridges$Signal", rb_T4, 8)) ∨ (ci = 5 ∧ q = ("RingBridges$Link", rb_T5, 17)) ∨ (ci = 6 ∧ q = ("RingBridges$ByteRow", rb_T6, 4)) ∨ (ci = 7 ∧ q = ("RingBridgesModel", rb_T7, 55)) := by
  match ci, h with
  | 0, h => exact Or.inl ⟨rfl, (Option.some.inj h).symm⟩
  | 1, h => exact Or.inr (Or.inl ⟨rfl, (Option.some.inj h).symm⟩)
  | 2, h => exact Or.inr (Or.inr (Or.inl ⟨rfl, (Option.some.inj h).symm⟩))
  | 3, h => exact Or.inr (Or.inr (Or.inr (Or.inl ⟨rfl, (Option.some.inj h).symm⟩)))
  | 4, h => exact Or.inr (Or.inr (Or.inr (Or.inr (Or.inl ⟨rfl, (Option.some.inj h).symm⟩))))
  | 5, h => exact Or.inr (Or.inr (Or.inr (Or.inr (Or.inr (Or.inl ⟨rfl, (Option.some.inj h).symm⟩)))))
  | 6, h => exact Or.inr (Or.inr (Or.inr (Or.inr (Or.inr (Or.inr (Or.inl ⟨rfl, (Option.some.inj h).symm⟩))))))
  | 7, h => exact Or.inr (Or.inr (Or.inr (Or.inr (Or.inr (Or.inr (Or.inr ⟨rfl, (Option.some.inj h).symm⟩))))))
  | n + 8, h => cases h
theorem rb_wL_in {w : Jvm.Cond} (h : w ∈ rb_wL) : w ∈ rb_ws := List.mem_append_right _ (List.mem_append_right _ (List.mem_append_right _ (List.mem_append_right _ (List.mem_append_right _ (List.mem_append_left _ h)))))
theorem rb_lay_in {ci : Nat} {q : vw_C} (h : rb_cl[ci]? = some q) : ∀ w ∈ u_ws q.1 q.2.1 q.2.2, w ∈ rb_ws := by
  intro w hw
  refine rb_wL_in ?_
  unfold rb_wL
  simp only [List.mem_append]
  rcases rb_cl_cases h with ⟨-, rfl⟩ | ⟨-, rfl⟩ | ⟨-, rfl⟩ | ⟨-, rfl⟩ | ⟨-, rfl⟩ | ⟨-, rfl⟩ | ⟨-, rfl⟩ | ⟨-, rfl⟩
  · exact Or.inl hw
  · exact Or.inr (Or.inl hw)
  · exact Or.inr (Or.inr (Or.inl hw))
  · exact Or.inr (Or.inr (Or.inr (Or.inl hw)))
  · exact Or.inr (Or.inr (Or.inr (Or.inr (Or.inl hw))))
  · exact Or.inr (Or.inr (Or.inr (Or.inr (Or.inr (Or.inl hw)))))
  · exact Or.inr (Or.inr (Or.inr (Or.inr (Or.inr (Or.inr (Or.inl hw))))))
  · exact Or.inr (Or.inr (Or.inr (Or.inr (Or.inr (Or.inr (Or.inr hw))))))
set_option maxRecDepth 100000 in
theorem rb_tt_ok {ci : Nat} {q : vw_C} (h : rb_cl[ci]? = some q) : ∀ k, k < q.2.2 → parseFieldDescriptor (q.2.1 k).2.2.1 = some (rb_tt ci k) := by
  rcases rb_cl_cases h with ⟨rfl, rfl⟩ | ⟨rfl, rfl⟩ | ⟨rfl, rfl⟩ | ⟨rfl, rfl⟩ | ⟨rfl, rfl⟩ | ⟨rfl, rfl⟩ | ⟨rfl, rfl⟩ | ⟨rfl, rfl⟩ <;> decide +kernel
set_option maxRecDepth 100000 in
theorem rb_nm_ok {ci : Nat} {q : vw_C} (h : rb_cl[ci]? = some q) : ∀ a, a < q.2.2 → ∀ b, b < q.2.2 → a ≠ b → (q.2.1 a).2.1 ≠ (q.2.1 b).2.1 := by
  rcases rb_cl_cases h with ⟨rfl, rfl⟩ | ⟨rfl, rfl⟩ | ⟨rfl, rfl⟩ | ⟨rfl, rfl⟩ | ⟨rfl, rfl⟩ | ⟨rfl, rfl⟩ | ⟨rfl, rfl⟩ | ⟨rfl, rfl⟩ <;> decide +kernel
theorem rb_df_len {ci : Nat} {q : vw_C} (h : rb_cl[ci]? = some q) : (rb_df ci).length = q.2.2 := by
  rcases rb_cl_cases h with ⟨rfl, rfl⟩ | ⟨rfl, rfl⟩ | ⟨rfl, rfl⟩ | ⟨rfl, rfl⟩ | ⟨rfl, rfl⟩ | ⟨rfl, rfl⟩ | ⟨rfl, rfl⟩ | ⟨rfl, rfl⟩ <;> rfl
set_option maxRecDepth 100000 in
theorem rb_df_ok {ci : Nat} {q : vw_C} (h : rb_cl[ci]? = some q) : ∀ j, j < q.2.2 → defaultValue (rb_tt ci j) = vp_V (rb_df ci) j := by
  rcases rb_cl_cases h with ⟨rfl, rfl⟩ | ⟨rfl, rfl⟩ | ⟨rfl, rfl⟩ | ⟨rfl, rfl⟩ | ⟨rfl, rfl⟩ | ⟨rfl, rfl⟩ | ⟨rfl, rfl⟩ | ⟨rfl, rfl⟩ <;> decide +kernel
theorem rb_df_rv (ci b : Nat) : (rb_df ci).map (rb_rv b) = rb_df ci := by
  match ci with
  | 0 => rfl
  | 1 => rfl
  | 2 => rfl
  | 3 => rfl
  | 4 => rfl
  | 5 => rfl
  | 6 => rfl
  | 7 => rfl
  | n + 8 => rfl
theorem rb_el_ok {t c : Nat} (h : rb_el t = some c) : ∃ q : vw_C, rb_cl[c]? = some q ∧ t < 7 ∧ rb_aty t = .object q.1 := by
  match t, h with
  | 2, h => cases h; exact ⟨_, rfl, by decide, rfl⟩
  | 3, h => cases h; exact ⟨_, rfl, by decide, rfl⟩
  | 4, h => cases h; exact ⟨_, rfl, by decide, rfl⟩
  | 5, h => cases h; exact ⟨_, rfl, by decide, rfl⟩
  | 0, h => cases h
  | 1, h => cases h
  | n + 6, h => cases h
theorem rb_wX_in {w : Jvm.Cond} (h : w ∈ rb_wX) : w ∈ rb_ws := List.mem_append_right _ (List.mem_append_right _ (List.mem_append_right _ (List.mem_append_right _ (List.mem_append_right _ (List.mem_append_right _ h)))))
theorem rb_oi_inst : Cond.instanceMethod Lib.objectInit ∈ rb_ws := rb_wX_in List.mem_cons_self
theorem rb_oi_code : Cond.code Lib.objectInit ⟨#[0xb1]⟩ 1 none ∈ rb_ws := rb_wX_in (List.mem_cons_of_mem _ List.mem_cons_self)
theorem rb_code_in {a : Nat} (ha : a < rb_nm) : Cond.code (rb_y a) (rb_b a) (rb_ml a) (rb_rt a) ∈ rb_ws := List.mem_append_left _ (List.mem_map.mpr ⟨a, List.mem_range.mpr ha, rfl⟩)
set_option maxRecDepth 100000 in
theorem rb_good0 : (rb_wF.flatten ++ (rb_wM.flatten ++ (rb_wV.flatten ++ (rb_wO ++ (rb_wL ++ rb_wX))))).all goodWord = true := by decide +kernel
theorem rb_ws_good (w : Jvm.Cond) (h : w ∈ rb_ws) : (w.onTables && w.keeps) = true ∨ ∃ ty, w = .arrayClass ty := by
  rcases List.mem_append.mp h with h | h
  · obtain ⟨a, -, rfl⟩ := List.mem_map.mp h
    exact Or.inl rfl
  · exact good_of_word (List.all_eq_true.mp rb_good0 w h)
set_option maxRecDepth 100000 in
theorem rb_plain0 : ∀ k, k < rb_nm → plainName (rb_y k).cls = true := by decide +kernel
theorem rb_plain {k : Nat} (h : k < rb_nm) : plainName (rb_y k).cls = true := rb_plain0 k h
theorem rb_on_ok {k : Nat} (_ : k < rb_nm) : (rb_y k).cls = rb_on k := rfl
end
section
/-! what an answer of each helper says -/
theorem rb_blt {a b : Nat} (h : Nat.blt a b = true) : a < b := Nat.le_of_ble_eq_true h
theorem rb_bltF {a b : Nat} (h : Nat.blt a b = false) : b ≤ a := Nat.not_lt.mp fun q => by
  have : Nat.blt a b = true := Nat.ble_eq_true_of_le q
  rw [h] at this
  cases this
section RBV
variable {nx j ci t k ms n : Nat} {kc : Int32} {ls st : List Value} {h : rb_H} {x : Nat × List Value × List Value × rb_H} {ty : FieldType} {f : Int32 → Int32 → Int32}
theorem rb_go_inv {pc : Nat} (hs : rb_go pc ls st h = some (.inl x)) : x = (pc, ls, st, h) := (Sum.inl.inj (Option.some.inj hs)).symm
theorem rb_ldi_inv (hs : rb_ldi nx j ls st h = some (.inl x)) : ∃ v, ls[j]? = some (.int v) ∧ x = (nx, ls, .int v :: st, h) := by
  unfold rb_ldi at hs
  split at hs
  · rename_i v hv
    exact ⟨v, hv, rb_go_inv hs⟩
  · cases hs
theorem rb_lda_inv (hs : rb_lda nx j ls st h = some (.inl x)) : ∃ v, ls[j]? = some v ∧ (v = .null ∨ ∃ a, v = .ref a) ∧ x = (nx, ls, v :: st, h) := by
  unfold rb_lda at hs
  split at hs
  · rename_i v hv
    exact ⟨_, hv, Or.inr ⟨v, rfl⟩, rb_go_inv hs⟩
  · rename_i hv
    exact ⟨_, hv, Or.inl rfl, rb_go_inv hs⟩
  · cases hs
theorem rb_sti_inv (hs : rb_sti nx j ls st h = some (.inl x)) : ∃ v r, st = .int v :: r ∧ j < ls.length ∧ x = (nx, ls.set j (.int v), r, h) := by
  unfold rb_sti at hs
  split at hs
  · rename_i v r
    split at hs
    · rename_i hj
      exact ⟨v, r, rfl, rb_blt hj, rb_go_inv hs⟩
    · cases hs
  · cases hs
theorem rb_sta_inv (hs : rb_sta nx j ls st h = some (.inl x)) : ∃ v r, st = v :: r ∧ (v = .null ∨ ∃ a, v = .ref a) ∧ j < ls.length ∧ x = (nx, ls.set j v, r, h) := by
  unfold rb_sta at hs
  split at hs
  · rename_i v r
    split at hs
    · rename_i hj
      exact ⟨_, r, rfl, Or.inr ⟨v, rfl⟩, rb_blt hj, rb_go_inv hs⟩
    · cases hs
  · rename_i r
    split at hs
    · rename_i hj
      exact ⟨_, r, rfl, Or.inl rfl, rb_blt hj, rb_go_inv hs⟩
    · cases hs
  · cases hs
theorem rb_inc_inv (hs : rb_inc nx j kc ls st h = some (.inl x)) : ∃ v, ls[j]? = some (.int v) ∧ x = (nx, ls.set j (.int (v + kc)), st, h) := by
  unfold rb_inc at hs
  split at hs
  · rename_i v hv
    exact ⟨v, hv, rb_go_inv hs⟩
  · cases hs
theorem rb_bin_inv (hs : rb_bin f nx ls st h = some (.inl x)) : ∃ u v r, st = .int v :: .int u :: r ∧ x = (nx, ls, .int (f u v) :: r, h) := by
  unfold rb_bin at hs
  split at hs
  · rename_i v u r
    exact ⟨u, v, r, rfl, rb_go_inv hs⟩
  · cases hs
theorem rb_div_inv (hs : rb_div f nx ls st h = some (.inl x)) : ∃ u v r, st = .int v :: .int u :: r ∧ ¬ v = 0 ∧ x = (nx, ls, .int (f u v) :: r, h) := by
  unfold rb_div at hs
  split at hs
  · rename_i v u r
    split at hs
    · cases hs
    · rename_i hd
      exact ⟨u, v, r, rfl, of_decide_eq_false hd, rb_go_inv hs⟩
  · cases hs
theorem rb_br_inv {c : Bool} {tg : Nat} (hs : rb_br c tg nx ls st h = some (.inl x)) : (c = true ∧ x = (tg, ls, st, h)) ∨ (c = false ∧ x = (nx, ls, st, h)) := by
  unfold rb_br at hs
  split at hs
  · exact Or.inl ⟨rfl, rb_go_inv hs⟩
  · exact Or.inr ⟨rfl, rb_go_inv hs⟩
theorem rb_get_inv (hs : rb_get ci j nx ls st h = some (.inl x)) : ∃ a r fs v, st = .ref a :: r ∧ h.2.2 a = .inr (ci, fs) ∧ fs[j]? = some v ∧ x = (nx, ls, v :: r, h) := by
  unfold rb_get at hs
  split at hs
  · rename_i a r
    split at hs
    · rename_i c fs he
      split at hs
      · rename_i hc
        split at hs
        · rename_i v hv
          have e := Nat.eq_of_beq_eq_true hc
          subst e
          exact ⟨a, r, fs, v, rfl, he, hv, rb_go_inv hs⟩
        · cases hs
      · cases hs
    · cases hs
  · cases hs
theorem rb_put_inv (hs : rb_put ci j ty nx ls st h = some (.inl x)) : ∃ a r fs v, st = v :: .ref a :: r ∧ rb_fit ty v = true ∧ h.2.2 a = .inr (ci, fs) ∧ j < fs.length ∧ x = (nx, ls, r, (h.1, h.2.1, va_up h.2.2 a (.inr (ci, fs.set j v)))) := by
  unfold rb_put at hs
  split at hs
  · rename_i v a r
    split at hs
    · rename_i hf
      split at hs
      · rename_i c fs he
        split at hs
        · rename_i hc
          split at hs
          · rename_i hj
            have e := Nat.eq_of_beq_eq_true hc
            subst e
            exact ⟨a, r, fs, v, rfl, hf, he, rb_blt hj, rb_go_inv hs⟩
          · cases hs
        · cases hs
      · cases hs
    · cases hs
  · cases hs
theorem rb_ald_inv (hs : rb_ald t nx ls st h = some (.inl x)) : ∃ i a r n g, st = .int i :: .ref a :: r ∧ h.2.2 a = .inl (t, n, .inl g) ∧ vp_in i n ∧ x = (nx, ls, .int (g i.toNatClampNeg) :: r, h) := by
  unfold rb_ald at hs
  split at hs
  · rename_i i a r
    split at hs
    · rename_i t' n g he
      split at hs
      · rename_i hc
        split at hs
        · cases hs
        · rename_i ho
          have e := Nat.eq_of_beq_eq_true hc
          subst e
          exact ⟨i, a, r, n, g, rfl, he, of_decide_eq_false ho, rb_go_inv hs⟩
      · cases hs
    · cases hs
  · cases hs
theorem rb_ast_inv (hs : rb_ast t ty nx ls st h = some (.inl x)) : ∃ v i a r n g, st = .int v :: .int i :: .ref a :: r ∧ rb_fit ty (.int v) = true ∧ h.2.2 a = .inl (t, n, .inl g) ∧ vp_in i n ∧ x = (nx, ls, r, (h.1, h.2.1, va_up h.2.2 a (.inl (t, n, .inl (upd g i.toNatClampNeg v))))) := by
  unfold rb_ast at hs
  split at hs
  · rename_i v i a r
    split at hs
    · rename_i hf
      split at hs
      · rename_i t' n g he
        split at hs
        · rename_i hc
          split at hs
          · cases hs
          · rename_i ho
            have e := Nat.eq_of_beq_eq_true hc
            subst e
            exact ⟨v, i, a, r, n, g, rfl, hf, he, of_decide_eq_false ho, rb_go_inv hs⟩
        · cases hs
      · cases hs
    · cases hs
  · cases hs
theorem rb_rald_inv (hs : rb_rald nx ls st h = some (.inl x)) : ∃ i a r t n g, st = .int i :: .ref a :: r ∧ h.2.2 a = .inl (t, n, .inr (.inr (.inr (.inr g)))) ∧ 2 ≤ t ∧ t < 7 ∧ vp_in i n ∧ x = (nx, ls, va_rf (g i.toNatClampNeg) :: r, h) := by
  unfold rb_rald at hs
  split at hs
  · rename_i i a r
    split at hs
    · rename_i t n g he
      split at hs
      · rename_i hc
        split at hs
        · cases hs
        · rename_i ho
          rw [Bool.and_eq_true] at hc
          exact ⟨i, a, r, t, n, g, rfl, he, Nat.le_of_ble_eq_true hc.1, rb_blt hc.2, of_decide_eq_false ho, rb_go_inv hs⟩
      · cases hs
    · cases hs
  · cases hs
theorem rb_rast_inv (hs : rb_rast nx ls st h = some (.inl x)) : ∃ v i a r t n g c vs, st = .ref v :: .int i :: .ref a :: r ∧ h.2.2 a = .inl (t, n, .inr (.inr (.inr (.inr g)))) ∧ h.2.2 v = .inr (c, vs) ∧ rb_el t = some c ∧ vp_in i n ∧ x = (nx, ls, r, (h.1, h.2.1, va_up h.2.2 a (.inl (t, n, .inr (.inr (.inr (.inr (va_up g i.toNatClampNeg (some v))))))))) := by
  unfold rb_rast at hs
  split at hs
  · rename_i v i a r
    split at hs
    · rename_i t n g he
      split at hs
      · rename_i c vs hv
        split at hs
        · rename_i c' hc'
          split at hs
          · rename_i hc
            split at hs
            · cases hs
            · rename_i ho
              have e := Nat.eq_of_beq_eq_true hc
              subst e
              exact ⟨v, i, a, r, t, n, g, c, vs, rfl, he, hv, hc', of_decide_eq_false ho, rb_go_inv hs⟩
          · cases hs
        · cases hs
      · cases hs
    · cases hs
  · cases hs
theorem rb_len_inv (hs : rb_len nx ls st h = some (.inl x)) : ∃ a r t n g, st = .ref a :: r ∧ h.2.2 a = .inl (t, n, .inl g) ∧ t < 7 ∧ x = (nx, ls, .int (Int32.ofNat n) :: r, h) := by
  unfold rb_len at hs
  split at hs
  · rename_i a r
    split at hs
    · rename_i t n g he
      split at hs
      · rename_i hc
        exact ⟨a, r, t, n, g, rfl, he, rb_blt hc, rb_go_inv hs⟩
      · cases hs
    · cases hs
  · cases hs
theorem rb_nwa_inv (hs : rb_nwa t nx ls st h = some (.inl x)) : ∃ n r, st = .int n :: r ∧ ¬ n < 0 ∧ n.toNatClampNeg ≤ 1000 ∧ x = (nx, ls, .ref h.1 :: r, (h.1 + 1, h.2.1 + n.toNatClampNeg, va_up h.2.2 h.1 (.inl (t, n.toNatClampNeg, .inl (fun _ => 0))))) := by
  unfold rb_nwa at hs
  split at hs
  · rename_i n r
    split at hs
    · cases hs
    · rename_i hn
      split at hs
      · cases hs
      · rename_i hb
        exact ⟨n, r, rfl, of_decide_eq_false hn, rb_bltF hb, rb_go_inv hs⟩
  · cases hs
theorem rb_nwr_inv (hs : rb_nwr t nx ls st h = some (.inl x)) : ∃ n r, st = .int n :: r ∧ ¬ n < 0 ∧ n.toNatClampNeg ≤ 1000 ∧ x = (nx, ls, .ref h.1 :: r, (h.1 + 1, h.2.1 + n.toNatClampNeg, va_up h.2.2 h.1 (.inl (t, n.toNatClampNeg, .inr (.inr (.inr (.inr (fun _ => none)))))))) := by
  unfold rb_nwr at hs
  split at hs
  · rename_i n r
    split at hs
    · cases hs
    · rename_i hn
      split at hs
      · cases hs
      · rename_i hb
        exact ⟨n, r, rfl, of_decide_eq_false hn, rb_bltF hb, rb_go_inv hs⟩
  · cases hs
theorem rb_nw2_inv (hs : rb_nw2 nx ls st h = some (.inl x)) : ∃ n1 n2 r, st = .int n2 :: .int n1 :: r ∧ ¬ n1 < 1 ∧ ¬ n2 < 0 ∧ n1.toNatClampNeg ≤ 1000 ∧ n2.toNatClampNeg ≤ 1000 ∧ x = (nx, ls, .ref h.1 :: r, rb_h2 h n1.toNatClampNeg n2.toNatClampNeg) := by
  unfold rb_nw2 at hs
  split at hs
  · rename_i n2 n1 r
    split at hs
    · cases hs
    · rename_i hn
      simp only [Bool.or_eq_false_iff] at hn
      exact ⟨n1, n2, r, rfl, of_decide_eq_false hn.1.1.1, of_decide_eq_false hn.1.1.2, rb_bltF hn.1.2, rb_bltF hn.2, rb_go_inv hs⟩
  · cases hs
end RBV
end
section
/-! one step of the pure machine is one step of the machine -/
section RBW
variable {p : Program} {l : Launch} {e : Env} {R : Room} {s : State} {m : MethodId} {args : Array Value} {below : List Frame} {meth : Method} {c : Code} {H : Heap} {locs : List Loc} {cells slots : Nat} {Q : State → Prop}
variable {D : va_G} {cA : Nat → ClassId} {b : Nat} {A : Nat → Prop} {h0 h : rb_H} {k pc : Nat} {ls st : List Value} {arr : Array Slot}
theorem rb_Wsz {g : JFrame} (kk : H.size ≤ s.heap.size + cells → W p l e R s m args below meth c H locs cells slots Q g) : W p l e R s m args below meth c H locs cells slots Q g := fun T hT X => kk (by have h9 := X.same.2.2.1; rw [← hT]; exact h9) T hT X
theorem rb_atO {a ci : Nat} {fs : List Value} (he : h.2.2 a = .inr (ci, fs)) (ha : a < h.1) : (rb_w b cA h)[a]? = some (b + a, .inr (ci, fs.map (rb_rv b))) := by
  rw [rb_w_get ha, he]
  rfl
theorem rb_atI {a t n : Nat} {f : Nat → Int32} (he : h.2.2 a = .inl (t, n, .inl f)) (ha : a < h.1) : (rb_w b cA h)[a]? = some (b + a, .inl (cA t, n, .inl f)) := by
  rw [rb_w_get ha, he]
  rfl
theorem rb_atR {a t n : Nat} {f : Nat → Option Nat} (he : h.2.2 a = .inl (t, n, .inr (.inr (.inr (.inr f))))) (ha : a < h.1) : (rb_w b cA h)[a]? = some (b + a, .inl (cA t, n, .inr (.inr (.inr (.inr (fun i => (f i).map (fun a => b + a))))))) := by
  rw [rb_w_get ha, he]
  rfl
theorem rb_clt {ci : Nat} {q : vw_C} (h : rb_cl[ci]? = some q) : ci < 1000 := Nat.lt_of_lt_of_le (List.getElem?_eq_some_iff.mp h).1 rb_cl_len
theorem rb_rf (b : Nat) (r : Option Nat) : rb_rv b (va_rf r) = va_rf (r.map (fun a => b + a)) := by
  cases r <;> rfl
/-- a store into the world -/
theorem rb_Inv.set {H1 : Heap} {locs1 : List Loc} {a : Nat} {x : va_E} (hI : rb_Inv D cA b A s.heap h0 h H locs cells slots) (ha : a < h.1) (hP : va_P D rb_cl ((rb_w b cA h).set a (b + a, rb_rc b cA x)) H1) (hD : va_D A ((rb_w b cA h).set a (b + a, rb_rc b cA x))) (hS : va_S A s.heap H1 locs1) : rb_Inv D cA b A s.heap h0 (h.1, h.2.1, va_up h.2.2 a x) H1 locs1 cells slots := by
  rw [rb_w_set ha] at hP hD
  refine ⟨hP, hD, hS, fun i hi => ?_, hI.2.2.2.2.1, hI.2.2.2.2.2⟩
  have hi : h.1 ≤ i := hi
  have : i ≠ a := by omega
  show va_up h.2.2 a x i = rb_blank
  unfold va_up
  rw [if_neg this]
  exact hI.2.2.2.1 i hi
/-- a new cell: it lies behind the others -/
theorem rb_Inv.push {H1 : Heap} {q n : Nat} {x : va_E} {x' : va_E} (hx : x' = rb_rc b cA x) (hI : rb_Inv D cA b A s.heap h0 h H locs cells slots) (hal : s.heap.size = b + h0.1) (hAb : ∀ q, A q → b ≤ q) (hz : H1.size ≤ s.heap.size + (cells + 1)) (hP : va_P D rb_cl (rb_w b cA h ++ [(q, x')]) H1) (hD : va_D A (rb_w b cA h ++ [(q, x')])) (hS : va_S A s.heap H1 locs) : q = b + h.1 ∧ rb_Inv D cA b A s.heap h0 (h.1 + 1, h.2.1 + n, va_up h.2.2 h.1 x) H1 locs (cells + 1) (slots + n) := by
  subst hx
  have hq : (rb_w b cA h ++ [(q, rb_rc b cA x)])[h.1]? = some (q, rb_rc b cA x) := by
    rw [List.getElem?_append_right (by rw [rb_w_len]; exact Nat.le_refl _), rb_w_len, Nat.sub_self]
    rfl
  have h1 : q < H1.size := (hP _ _ hq).lt
  have h2 : b ≤ q := hAb q (hD.2 _ _ hq)
  have h3 := hI.2.2.2.2.1
  have h4 : q = b + h.1 := by
    refine Nat.le_antisymm (by omega) (Nat.not_lt.mp fun h9 => ?_)
    have hi : q - b < h.1 := by omega
    have h5 : (rb_w b cA h ++ [(q, rb_rc b cA x)])[q - b]? = some (b + (q - b), rb_rc b cA (h.2.2 (q - b))) := by
      rw [List.getElem?_append_left (by rw [rb_w_len]; exact hi), rb_w_get hi]
    have := hD.1 _ _ _ _ h5 hq (by show b + (q - b) = q; omega)
    omega
  subst h4
  rw [rb_w_push h (h.2.1 + n) x] at hP hD
  refine ⟨rfl, hP, hD, hS, fun i hi => ?_, by show h0.1 + (cells + 1) = h.1 + 1; omega, by show h0.2.1 + (slots + n) = h.2.1 + n; have := hI.2.2.2.2.2; omega⟩
  have hi : h.1 + 1 ≤ i := hi
  show va_up h.2.2 h.1 x i = rb_blank
  unfold va_up
  rw [if_neg (by omega)]
  exact hI.2.2.2.1 i (by omega)
theorem rb_fok_spec {idx a b' : Nat} (hf : rb_fok k idx a b' = true) : ∃ q : vw_C, rb_cl[a]? = some q ∧ b' < q.2.2 ∧ (q.2.1 b').1 = q.1 ∧ Cond.fieldLink (rb_on k) idx q.1 (q.2.1 b').2.1 (q.2.1 b').2.2.1 ∈ rb_ws := by
  unfold rb_fok at hf
  split at hf
  · rename_i q hq
    rw [Bool.and_eq_true, Bool.and_eq_true] at hf
    exact ⟨q, hq, rb_blt hf.1.1, of_decide_eq_true hf.1.2, rb_hasF_mem hf.2⟩
  · cases hf
set_option maxHeartbeats 4000000 in
theorem rb_getW (hx : p.tables.exec = Jvm.exec) (hb : c.code = rb_b k) (hts : ∀ w ∈ rb_ws, w.before args s = true) (hown : s.vm.findClass (rb_on k) = some m.cls) (hK : va_K D rb_cl (rb_tys cA) s) (hI : rb_Inv D cA b A s.heap h0 h H locs cells slots)
    {idx ci j a : Nat} {fs r : List Value} {v : Value} (hf : rb_fok k idx ci j = true) (hd : decode (rb_b k) pc = .ok (.getfield idx, 3)) (he : h.2.2 a = .inr (ci, fs)) (hv : fs[j]? = some v)
    (kk : W p l e R s m args below meth c H locs cells slots Q (F0 m (pc + 3) arr (rb_rv b v :: r))) : W p l e R s m args below meth c H locs cells slots Q (F0 m pc arr (.ref (b + a) :: r)) := by
  obtain ⟨q, hq, hj, hdc, hlk⟩ := rb_fok_spec hf
  obtain ⟨C, T, N⟩ := q
  have ha := rb_inO hI.2.2.2.1 he (rb_clt hq)
  exact va_get (D := D) (ci := ci) (C := C) (T := T) (N := N) (ref := C) hx hb hts (rb_lay_in hq) hown hK hI.1 a (rb_atO he ha) hq j hj (hts _ hlk) (fun x hx9 => by rw [hdc] at hx9; exact hx9) (by rw [List.getElem?_map, hv]; rfl) hd kk
set_option maxHeartbeats 4000000 in
theorem rb_putW (hx : p.tables.exec = Jvm.exec) (hb : c.code = rb_b k) (hts : ∀ w ∈ rb_ws, w.before args s = true) (hown : s.vm.findClass (rb_on k) = some m.cls) (hnm : meth.name = (rb_y k).name) (hK : va_K D rb_cl (rb_tys cA) s) (hI : rb_Inv D cA b A s.heap h0 h H locs cells slots)
    {idx ci j a : Nat} {fs r : List Value} {v : Value} (hf : rb_fok k idx ci j = true) (hp : rb_pok k ci j = true) (hd : decode (rb_b k) pc = .ok (.putfield idx, 3)) (he : h.2.2 a = .inr (ci, fs)) (hj : j < fs.length) (hfit : rb_fit (rb_tt ci j) v = true)
    (kk : ∀ (H1 : Heap) (locs1 : List Loc), rb_Inv D cA b A s.heap h0 (h.1, h.2.1, va_up h.2.2 a (.inr (ci, fs.set j v))) H1 locs1 cells slots → W p l e R s m args below meth c H1 locs1 cells slots Q (F0 m (pc + 3) arr r)) : W p l e R s m args below meth c H locs cells slots Q (F0 m pc arr (rb_rv b v :: .ref (b + a) :: r)) := by
  obtain ⟨q, hq, hj2, hdc, hlk⟩ := rb_fok_spec hf
  obtain ⟨C, T, N⟩ := q
  have ha := rb_inO hI.2.2.2.1 he (rb_clt hq)
  obtain ⟨hn, hft⟩ := rb_fit_spec b hfit
  have hset : (b + a, (Sum.inr (ci, (fs.map (rb_rv b)).set j (rb_rv b v)) : va_E)) = (b + a, rb_rc b cA (.inr (ci, fs.set j v))) := by
    show _ = (b + a, (Sum.inr (ci, (fs.set j v).map (rb_rv b)) : va_E))
    rw [List.map_set]
  unfold rb_pok at hp
  rw [hq] at hp
  dsimp only at hp
  cases hfin : (T j).2.2.2 with
  | false =>
    refine va_put (D := D) (ci := ci) (C := C) (T := T) (N := N) (ref := C) (ty := rb_tt ci j) hx hb hts (rb_lay_in hq) (rb_tt ci) (rb_tt_ok hq) (rb_nm_ok hq) hown hK hI.1 hI.2.1 hI.2.2.1 a (rb_atO he ha) hq j hj2 (hts _ hlk) (fun x hx9 => by rw [hdc] at hx9; exact hx9) hfin (rb_tt_ok hq j hj2) hn hft (by rw [List.length_map]; exact hj) hd (fun H1 locs1 hP1 hD1 hS1 => ?_)
    rw [hset] at hP1 hD1
    exact kk H1 locs1 (hI.set ha hP1 hD1 hS1)
  | true =>
    rw [hfin] at hp
    simp only [Bool.not_true, Bool.false_or, Bool.and_eq_true, decide_eq_true_eq] at hp
    refine va_putF (D := D) (ci := ci) (C := C) (T := T) (N := N) (ref := C) (ty := rb_tt ci j) hx hb hts (rb_lay_in hq) (rb_tt ci) (rb_tt_ok hq) (rb_nm_ok hq) hown hK hI.1 hI.2.1 hI.2.2.1 a (rb_atO he ha) hq j hj2 (hts _ hlk) (fun x hx9 => by rw [hdc] at hx9; exact hx9) hfin (hnm.trans hp.1) (hdc.trans hp.2) (rb_tt_ok hq j hj2) hn hft (by rw [List.length_map]; exact hj) hd (fun H1 locs1 hP1 hD1 hS1 => ?_)
    rw [hset] at hP1 hD1
    exact kk H1 locs1 (hI.set ha hP1 hD1 hS1)
end RBW
end
section
section RBX
variable {p : Program} {l : Launch} {e : Env} {R : Room} {s : State} {m : MethodId} {args : Array Value} {below : List Frame} {meth : Method} {c : Code} {H : Heap} {locs : List Loc} {cells slots : Nat} {Q : State → Prop}
variable {D : va_G} {cA : Nat → ClassId} {b : Nat} {A : Nat → Prop} {h0 h : rb_H} {k pc : Nat} {ls st : List Value} {arr : Array Slot} {cc : ByteArray}
theorem rb_icmpW (hx : p.tables.exec = Jvm.exec) (hb : c.code = cc) {cd : Jvm.ClassFile.Cond} {u v : Int32} {off : Int} {tgt : Nat} {r : List Value} (hd : decode cc pc = .ok (.if_icmp cd off, 3)) (ht : (pc : Int) + off = (tgt : Int))
    (kt : rb_cmp cd u v = true → W p l e R s m args below meth c H locs cells slots Q (F0 m tgt arr r)) (kf : rb_cmp cd u v = false → W p l e R s m args below meth c H locs cells slots Q (F0 m (pc + 3) arr r)) : W p l e R s m args below meth c H locs cells slots Q (F0 m pc arr (.int v :: .int u :: r)) := by
  cases cd
  · exact lv_icmp_eq hx hb hd ht (fun h => kt (by simp [rb_cmp, h])) (fun h => kf (by simp [rb_cmp, h]))
  · exact lv_icmp_ne hx hb hd ht (fun h => kt (by simp [rb_cmp, h])) (fun h => kf (by simp [rb_cmp, h]))
  · exact lv_icmp_lt hx hb hd ht (fun h => kt (by simp only [rb_cmp, decide_eq_true_eq]; exact h)) (fun h => kf (by simp only [rb_cmp, decide_eq_false_iff_not]; exact h))
  · exact lv_icmp_ge hx hb hd ht (fun h => kt (by simp only [rb_cmp, decide_eq_true_eq]; exact h)) (fun h => kf (by simp only [rb_cmp, decide_eq_false_iff_not]; exact h))
  · exact lv_icmp_gt hx hb hd ht (fun h => kt (by simp only [rb_cmp, decide_eq_true_eq]; exact h)) (fun h => kf (by simp only [rb_cmp, decide_eq_false_iff_not]; exact h))
  · exact lv_icmp_le hx hb hd ht (fun h => kt (by simp only [rb_cmp, decide_eq_true_eq]; exact h)) (fun h => kf (by simp only [rb_cmp, decide_eq_false_iff_not]; exact h))
theorem rb_ifW (hx : p.tables.exec = Jvm.exec) (hb : c.code = cc) {cd : Jvm.ClassFile.Cond} {u : Int32} {off : Int} {tgt : Nat} {r : List Value} (hd : decode cc pc = .ok (.ifCond cd off, 3)) (ht : (pc : Int) + off = (tgt : Int))
    (kt : rb_cmp cd u 0 = true → W p l e R s m args below meth c H locs cells slots Q (F0 m tgt arr r)) (kf : rb_cmp cd u 0 = false → W p l e R s m args below meth c H locs cells slots Q (F0 m (pc + 3) arr r)) : W p l e R s m args below meth c H locs cells slots Q (F0 m pc arr (.int u :: r)) := by
  cases cd
  · exact lv_if_eq hx hb hd ht (fun h => kt (by simp [rb_cmp, h])) (fun h => kf (by simp [rb_cmp, h]))
  · exact lv_if_ne hx hb hd ht (fun h => kt (by simp [rb_cmp, h])) (fun h => kf (by simp [rb_cmp, h]))
  · exact lv_if_lt hx hb hd ht (fun h => kt (by simp only [rb_cmp, decide_eq_true_eq]; exact h)) (fun h => kf (by simp only [rb_cmp, decide_eq_false_iff_not]; exact h))
  · exact lv_if_ge hx hb hd ht (fun h => kt (by simp only [rb_cmp, decide_eq_true_eq]; exact h)) (fun h => kf (by simp only [rb_cmp, decide_eq_false_iff_not]; exact h))
  · exact lv_if_gt hx hb hd ht (fun h => kt (by simp only [rb_cmp, decide_eq_true_eq]; exact h)) (fun h => kf (by simp only [rb_cmp, decide_eq_false_iff_not]; exact h))
  · exact lv_if_le hx hb hd ht (fun h => kt (by simp only [rb_cmp, decide_eq_true_eq]; exact h)) (fun h => kf (by simp only [rb_cmp, decide_eq_false_iff_not]; exact h))
theorem rb_sw_spec (x : Int32) (d : Nat) : ∀ ps : List (Int32 × Nat), (∃ (j : Nat) (q : Int32 × Nat), ps[j]? = some q ∧ x = q.1 ∧ rb_sw x ps d = q.2) ∨ ((∀ q ∈ ps, ¬ x = q.1) ∧ rb_sw x ps d = d)
  | [] => Or.inr ⟨fun q h => (by cases h), rfl⟩
  | q :: r => by
    by_cases hq : x = q.1
    · refine Or.inl ⟨0, q, rfl, hq, ?_⟩
      simp [rb_sw, hq]
    · rcases rb_sw_spec x d r with ⟨j, q', h1, h2, h3⟩ | ⟨h1, h2⟩
      · exact Or.inl ⟨j + 1, q', by simpa using h1, h2, by simp [rb_sw, hq]; exact h3⟩
      · refine Or.inr ⟨fun q' h => ?_, by simp [rb_sw, hq]; exact h2⟩
        rcases List.mem_cons.mp h with h | h
        · rw [h]; exact hq
        · exact h1 q' h
theorem rb_tabW (hx : p.tables.exec = Jvm.exec) (hb : c.code = cc) {d lo hi : Int} {os : Array Int} {len a b' : Nat} {u : Int32} {r : List Value} (hd : decode cc pc = .ok (.tableswitch d lo hi os, len)) (hm : rb_more k pc (.tableswitch d lo hi os) a b' 0 = true)
    (kk : W p l e R s m args below meth c H locs cells slots Q (F0 m (rb_sw u (rb_swt a) b') arr r)) : W p l e R s m args below meth c H locs cells slots Q (F0 m pc arr (.int u :: r)) := by
  simp only [rb_more, Bool.and_eq_true, decide_eq_true_eq] at hm
  obtain ⟨⟨⟨m1, m2⟩, m3⟩, m4⟩ := hm
  have m5 : ∀ j, j < os.size → ∃ q o, (rb_swt a)[j]? = some q ∧ os[j]? = some o ∧ q.1.toInt = lo + j ∧ (pc : Int) + o = (q.2 : Int) := by
    intro j hj
    have := List.all_eq_true.mp m4 j (List.mem_range.mpr hj)
    split at this
    · rename_i q o h1 h2
      rw [Bool.and_eq_true] at this
      exact ⟨q, o, h1, h2, of_decide_eq_true this.1, of_decide_eq_true this.2⟩
    · cases this
  rcases rb_sw_spec u b' (rb_swt a) with ⟨j, q, h1, h2, h3⟩ | ⟨h1, h2⟩
  · have hj : j < os.size := by rw [← m2]; exact (List.getElem?_eq_some_iff.mp h1).1
    obtain ⟨q', o, g1, g2, g3, g4⟩ := m5 j hj
    rw [h1] at g1
    cases g1
    rw [h3] at kk
    subst h2
    exact lv_tableIn hx hb hd (by omega) (by omega) (by rw [show (q.1.toInt - lo).toNat = j by omega]; exact g2) g4 kk
  · rw [h2] at kk
    refine lv_tableOut hx hb hd ?_ m1 kk
    refine Classical.byContradiction fun hn => ?_
    have h8 : ¬ u.toInt < lo ∧ ¬ hi < u.toInt := ⟨fun q => hn (Or.inl q), fun q => hn (Or.inr q)⟩
    obtain ⟨q, o, g1, g2, g3, g4⟩ := m5 (u.toInt - lo).toNat (by omega)
    exact h1 q (List.mem_of_getElem? g1) (Int32.toInt_inj.mp (by omega))
theorem rb_lkW (hx : p.tables.exec = Jvm.exec) (hb : c.code = cc) {d : Int} {ps : Array (Int × Int)} {len a b' : Nat} {u : Int32} {r : List Value} (hd : decode cc pc = .ok (.lookupswitch d ps, len)) (hm : rb_more k pc (.lookupswitch d ps) a b' 0 = true)
    (kk : W p l e R s m args below meth c H locs cells slots Q (F0 m (rb_sw u (rb_swt a) b') arr r)) : W p l e R s m args below meth c H locs cells slots Q (F0 m pc arr (.int u :: r)) := by
  simp only [rb_more, Bool.and_eq_true, decide_eq_true_eq] at hm
  obtain ⟨⟨m1, m2⟩, m3⟩ := hm
  have key : ∀ ll : List (Int32 × Nat), (pc : Int) + Op.lookupswitch.offset (ll.map (fun q => (q.1.toInt, (q.2 : Int) - pc))) d u.toInt = (rb_sw u ll b' : Int) := by
    intro ll
    induction ll with
    | nil => simpa [Op.lookupswitch.offset, rb_sw] using m1
    | cons q r ih =>
      by_cases hq : u = q.1
      · subst hq
        rw [List.map_cons, Op.lookupswitch.offset_cons, if_pos rfl]
        simp [rb_sw]
        try omega
      · rw [List.map_cons, lv_osw hq rfl, ih]
        simp [rb_sw, hq]
  refine lv_lookup hx hb hd ?_ rfl (by rw [m3]; exact key _) kk
  exact m2
end RBX
end
section
section RBZ
variable {p : Program} {l : Launch} {e : Env} {R : Room} {s : State} {m : MethodId} {args : Array Value} {below : List Frame} {meth : Method} {c : Code} {H : Heap} {locs : List Loc} {cells slots : Nat} {Q : State → Prop}
variable {D : va_G} {cA : Nat → ClassId} {k pc : Nat} {arr : Array Slot} {cc : ByteArray} {r : List Value} {ws : va_W}
theorem rb_aldW (hx : p.tables.exec = Jvm.exec) (hb : c.code = cc) {tys : List (ClassId × FieldType)} (hK : va_K D rb_cl tys s) (hP : va_P D rb_cl ws H) {q0 t0 ad n : Nat} {cX : ClassId} {ty : FieldType} {f : Nat → Option Nat} (ha : ws[q0]? = some (ad, .inl (cX, n, .inr (.inr (.inr (.inr f)))))) (ht : tys[t0]? = some (cX, ty)) (hty : ty.isReference = true) {i : Int32} (hin : vp_in i n) (hd : decode cc pc = .ok (.aaload, 1))
    (kk : W p l e R s m args below meth c H locs cells slots Q (F0 m (pc + 1) arr (va_rf (f i.toNatClampNeg) :: r))) : W p l e R s m args below meth c H locs cells slots Q (F0 m pc arr (.int i :: .ref ad :: r)) := by
  have hlt : i.toNatClampNeg < n := Nat.not_le.mp fun q => hin (Or.inr q)
  refine W.aald (v := va_rf (f i.toNatClampNeg)) (ty := ty) hx hb (hP q0 _ ha) ((hK.2 t0 _ ht).1 n (fun j => va_rf (f j))) hty (fun q => by cases q) ?_ ?_ rfl rfl hd kk
  · show ¬ (i < 0 ∨ (arrV _ _ _).slots.size ≤ _)
    rw [arrV_size]
    exact hin
  · show (arrV _ _ _).slots[_]? = _
    rw [arrV_read _ _ hlt]
theorem rb_aty_ref {t : Nat} (h2 : 2 ≤ t) (h7 : t < 7) : (rb_aty t).isReference = true := by
  have : t = 2 ∨ t = 3 ∨ t = 4 ∨ t = 5 ∨ t = 6 := by omega
  rcases this with rfl | rfl | rfl | rfl | rfl <;> rfl
theorem rb_nok_spec {idx a : Nat} (hm : rb_nok k idx a = true) : ∃ q : vw_C, rb_cl[a]? = some q ∧ Cond.classLink (rb_on k) idx q.1 ∈ rb_ws ∧ Cond.instantiable q.1 q.2.2 ∈ rb_ws ∧ Cond.initialized q.1 ∈ rb_ws := by
  unfold rb_nok at hm
  split at hm
  · rename_i q hq
    rw [Bool.and_eq_true, Bool.and_eq_true] at hm
    exact ⟨q, hq, rb_hasO_mem hm.1.1, rb_hasO_mem hm.1.2, rb_hasO_mem hm.2⟩
  · cases hm
theorem rb_aok_spec {idx a : Nat} (hm : rb_aok k idx a = true) : ∃ C : String, Cond.classLink (rb_on k) idx C ∈ rb_ws ∧ rb_aty a = .object C ∧ a < 7 ∧ C ∈ rb_aos := by
  unfold rb_aok at hm
  split at hm
  · split at hm
    · rename_i q hq
      rw [Bool.and_eq_true, Bool.and_eq_true, Bool.and_eq_true] at hm
      exact ⟨q.1, rb_hasO_mem hm.1.1.1, of_decide_eq_true hm.1.1.2, rb_blt hm.1.2, of_decide_eq_true hm.2⟩
    · cases hm
  · cases hm
theorem rb_nwa_ok {t : Jvm.ClassFile.ArrayType} {a b' : Nat} {kc : Int32} (hm : rb_more k pc (.newarray t) a b' kc = true) : a < 7 ∧ newarray.typeOf t = rb_aty a ∧ Cond.arrayClass (newarray.typeOf t) ∈ rb_ws := by
  cases t <;> simp only [rb_more, Bool.and_eq_true, reduceCtorEq] at hm
  · have e := Nat.eq_of_beq_eq_true hm.1
    subst e
    exact ⟨by decide, rfl, rb_hasO_mem hm.2⟩
  · have e := Nat.eq_of_beq_eq_true hm.1
    subst e
    exact ⟨by decide, rfl, rb_hasO_mem hm.2⟩
theorem rb_cell0 {t : Jvm.ClassFile.ArrayType} {a b' n : Nat} {kc : Int32} {cX : ClassId} (hm : rb_more k pc (.newarray t) a b' kc = true) : vp_cell cX (n, .inl (fun _ => 0)) = arrV cX n (fun _ => defaultValue (rb_aty a)) := by
  cases t <;> simp only [rb_more, Bool.and_eq_true, reduceCtorEq] at hm
  · have e := Nat.eq_of_beq_eq_true hm.1
    subst e
    rfl
  · have e := Nat.eq_of_beq_eq_true hm.1
    subst e
    rfl
theorem rb_bytes {t : Jvm.ClassFile.ArrayType} {a b' n : Nat} {kc : Int32} (hm : rb_more k pc (.newarray t) a b' kc = true) (hn : n ≤ 1000) : n * componentBytes (rb_aty a) ≤ 536870912 := by
  cases t <;> simp only [rb_more, Bool.and_eq_true, reduceCtorEq] at hm
  · have e := Nat.eq_of_beq_eq_true hm.1
    subst e
    show n * 1 ≤ 536870912
    omega
  · have e := Nat.eq_of_beq_eq_true hm.1
    subst e
    show n * 4 ≤ 536870912
    omega
theorem rb_RA {U : State} {c1 c2 : ClassId} {ty : FieldType} (h1 : va_RA U c1 ty) (h2 : va_RA U c2 ty) : c1 = c2 := by
  cases ty with
  | object C =>
    obtain ⟨_, _, -, -, -, e1⟩ := h1
    obtain ⟨_, _, -, -, -, e2⟩ := h2
    exact Option.some.inj (e1.symm.trans e2)
  | _ => exact Option.some.inj (Eq.trans (Eq.symm h1) h2)
theorem rb_sameA {a : Nat} {cX : ClassId} (hK : va_K D rb_cl (rb_tys cA) s) (hK1 : va_K D rb_cl (rb_tys cA ++ [(cX, rb_aty a)]) s) (ha : a < 7) : cX = cA a := by
  have h1 := (hK.2 a _ (rb_tys_at cA ha)).2
  have h2 := (hK1.2 (rb_tys cA).length (cX, rb_aty a) (by rw [List.getElem?_append_right (Nat.le_refl _), Nat.sub_self]; rfl)).2
  exact rb_RA h2 h1
theorem rb_oi_spec {idx a b' : Nat} {kc : Int32} (h9 : a = 999) (hm : rb_more k pc (.invokespecial idx) a b' kc = true) : Cond.methodLink (rb_on k) idx Lib.objectInit ∈ rb_ws := by
  subst h9
  simp only [rb_more, Bool.or_eq_true, Bool.and_eq_true] at hm
  rcases hm with hm | hm
  · exact rb_hasM_mem hm.2
  · have := hm.1.1.1.1.2
    unfold rb_cok at this
    simp only [Bool.and_eq_true] at this
    have h8 := this.1.1.1.1.1
    have : 999 < rb_nm := rb_blt h8
    exact absurd this (by decide)
end RBZ
end
section
/-! each row of the tables agrees with the bytecode and the words, by the kernel -/
set_option maxRecDepth 100000 in
theorem rb_k0 : rb_c0.all (fun q => rb_chk 0 q.1 q.2) = true := by decide +kernel
set_option maxRecDepth 100000 in
theorem rb_k1 : rb_c1.all (fun q => rb_chk 1 q.1 q.2) = true := by decide +kernel
set_option maxRecDepth 100000 in
theorem rb_k2 : rb_c2.all (fun q => rb_chk 2 q.1 q.2) = true := by decide +kernel
set_option maxRecDepth 100000 in
theorem rb_k3 : rb_c3.all (fun q => rb_chk 3 q.1 q.2) = true := by decide +kernel
set_option maxRecDepth 100000 in
theorem rb_k4 : rb_c4.all (fun q => rb_chk 4 q.1 q.2) = true := by decide +kernel
set_option maxRecDepth 100000 in
theorem rb_k5 : rb_c5.all (fun q => rb_chk 5 q.1 q.2) = true := by decide +kernel
set_option maxRecDepth 100000 in
theorem rb_k6 : rb_c6.all (fun q => rb_chk 6 q.1 q.2) = true := by decide +kernel
set_option maxRecDepth 100000 in
theorem rb_k7 : rb_c7.all (fun q => rb_chk 7 q.1 q.2) = true := by decide +kernel
set_option maxRecDepth 100000 in
theorem rb_k8 : rb_c8.all (fun q => rb_chk 8 q.1 q.2) = true := by decide +kernel
set_option maxRecDepth 100000 in
theorem rb_k9 : rb_c9.all (fun q => rb_chk 9 q.1 q.2) = true := by decide +kernel
set_option maxRecDepth 100000 in
theorem rb_k10 : rb_c10.all (fun q => rb_chk 10 q.1 q.2) = true := by decide +kernel
set_option maxRecDepth 100000 in
theorem rb_k11 : rb_c11.all (fun q => rb_chk 11 q.1 q.2) = true := by decide +kernel
set_option maxRecDepth 100000 in
theorem rb_k12 : rb_c12.all (fun q => rb_chk 12 q.1 q.2) = true := by decide +kernel
set_option maxRecDepth 100000 in
theorem rb_k13 : rb_c13.all (fun q => rb_chk 13 q.1 q.2) = true := by decide +kernel
set_option maxRecDepth 100000 in
theorem rb_k14 : rb_c14.all (fun q => rb_chk 14 q.1 q.2) = true := by decide +kernel
set_option maxRecDepth 100000 in
theorem rb_k15 : rb_c15.all (fun q => rb_chk 15 q.1 q.2) = true := by decide +kernel
set_option maxRecDepth 100000 in
theorem rb_k16 : rb_c16.all (fun q => rb_chk 16 q.1 q.2) = true := by decide +kernel
set_option maxRecDepth 100000 in
theorem rb_k17 : rb_c17.all (fun q => rb_chk 17 q.1 q.2) = true := by decide +kernel
set_option maxRecDepth 100000 in
theorem rb_k18 : rb_c18.all (fun q => rb_chk 18 q.1 q.2) = true := by decide +kernel
set_option maxRecDepth 100000 in
theorem rb_k19 : rb_c19.all (fun q => rb_chk 19 q.1 q.2) = true := by decide +kernel
set_option maxRecDepth 100000 in
theorem rb_k20 : rb_c20.all (fun q => rb_chk 20 q.1 q.2) = true := by decide +kernel
set_option maxRecDepth 100000 in
theorem rb_k21 : rb_c21.all (fun q => rb_chk 21 q.1 q.2) = true := by decide +kernel
set_option maxRecDepth 100000 in
theorem rb_k22 : rb_c22.all (fun q => rb_chk 22 q.1 q.2) = true := by decide +kernel
set_option maxRecDepth 100000 in
theorem rb_k23 : rb_c23.all (fun q => rb_chk 23 q.1 q.2) = true := by decide +kernel
set_option maxRecDepth 100000 in
theorem rb_k24 : rb_c24.all (fun q => rb_chk 24 q.1 q.2) = true := by decide +kernel
set_option maxRecDepth 100000 in
theorem rb_k25 : rb_c25.all (fun q => rb_chk 25 q.1 q.2) = true := by decide +kernel
set_option maxRecDepth 100000 in
theorem rb_k26 : rb_c26.all (fun q => rb_chk 26 q.1 q.2) = true := by decide +kernel
set_option maxRecDepth 100000 in
theorem rb_k27 : rb_c27.all (fun q => rb_chk 27 q.1 q.2) = true := by decide +kernel
set_option maxRecDepth 100000 in
theorem rb_k28 : rb_c28.all (fun q => rb_chk 28 q.1 q.2) = true := by decide +kernel
set_option maxRecDepth 100000 in
theorem rb_k29 : rb_c29.all (fun q => rb_chk 29 q.1 q.2) = true := by decide +kernel
set_option maxRecDepth 100000 in
theorem rb_k30 : rb_c30.all (fun q => rb_chk 30 q.1 q.2) = true := by decide +kernel
set_option maxRecDepth 100000 in
theorem rb_k31 : rb_c31.all (fun q => rb_chk 31 q.1 q.2) = true := by decide +kernel
set_option maxRecDepth 100000 in
theorem rb_k32 : rb_c32.all (fun q => rb_chk 32 q.1 q.2) = true := by decide +kernel
set_option maxRecDepth 100000 in
theorem rb_k33 : rb_c33.all (fun q => rb_chk 33 q.1 q.2) = true := by decide +kernel
set_option maxRecDepth 100000 in
theorem rb_k34 : rb_c34.all (fun q => rb_chk 34 q.1 q.2) = true := by decide +kernel
set_option maxRecDepth 100000 in
theorem rb_k35 : rb_c35.all (fun q => rb_chk 35 q.1 q.2) = true := by decide +kernel
set_option maxRecDepth 100000 in
theorem rb_k36 : rb_c36.all (fun q => rb_chk 36 q.1 q.2) = true := by decide +kernel
set_option maxRecDepth 100000 in
theorem rb_k37 : rb_c37.all (fun q => rb_chk 37 q.1 q.2) = true := by decide +kernel
set_option maxRecDepth 100000 in
theorem rb_k38 : rb_c38.all (fun q => rb_chk 38 q.1 q.2) = true := by decide +kernel
set_option maxRecDepth 100000 in
theorem rb_k39 : rb_c39.all (fun q => rb_chk 39 q.1 q.2) = true := by decide +kernel
set_option maxRecDepth 100000 in
theorem rb_k40 : rb_c40.all (fun q => rb_chk 40 q.1 q.2) = true := by decide +kernel
set_option maxRecDepth 100000 in
theorem rb_k41 : rb_c41.all (fun q => rb_chk 41 q.1 q.2) = true := by decide +kernel
set_option maxRecDepth 100000 in
theorem rb_k42 : rb_c42.all (fun q => rb_chk 42 q.1 q.2) = true := by decide +kernel
end
section
/-! each row of the tables agrees with the bytecode and the words, by the kernel -/
set_option maxRecDepth 100000 in
theorem rb_k43 : rb_c43.all (fun q => rb_chk 43 q.1 q.2) = true := by decide +kernel
set_option maxRecDepth 100000 in
theorem rb_k44 : rb_c44.all (fun q => rb_chk 44 q.1 q.2) = true := by decide +kernel
set_option maxRecDepth 100000 in
theorem rb_k45 : rb_c45.all (fun q => rb_chk 45 q.1 q.2) = true := by decide +kernel
set_option maxRecDepth 100000 in
theorem rb_k46 : rb_c46.all (fun q => rb_chk 46 q.1 q.2) = true := by decide +kernel
set_option maxRecDepth 100000 in
theorem rb_k47 : rb_c47.all (fun q => rb_chk 47 q.1 q.2) = true := by decide +kernel
set_option maxRecDepth 100000 in
theorem rb_k48 : rb_c48.all (fun q => rb_chk 48 q.1 q.2) = true := by decide +kernel
set_option maxRecDepth 100000 in
theorem rb_k49 : rb_c49.all (fun q => rb_chk 49 q.1 q.2) = true := by decide +kernel
set_option maxRecDepth 100000 in
theorem rb_k50 : rb_c50.all (fun q => rb_chk 50 q.1 q.2) = true := by decide +kernel
set_option maxRecDepth 100000 in
theorem rb_k51 : rb_c51.all (fun q => rb_chk 51 q.1 q.2) = true := by decide +kernel
set_option maxRecDepth 100000 in
theorem rb_k52 : rb_c52.all (fun q => rb_chk 52 q.1 q.2) = true := by decide +kernel
set_option maxRecDepth 100000 in
theorem rb_k53 : rb_c53.all (fun q => rb_chk 53 q.1 q.2) = true := by decide +kernel
set_option maxRecDepth 100000 in
theorem rb_k54 : rb_c54.all (fun q => rb_chk 54 q.1 q.2) = true := by decide +kernel
set_option maxRecDepth 100000 in
theorem rb_k55 : rb_c55.all (fun q => rb_chk 55 q.1 q.2) = true := by decide +kernel
set_option maxRecDepth 100000 in
theorem rb_k56 : rb_c56.all (fun q => rb_chk 56 q.1 q.2) = true := by decide +kernel
set_option maxRecDepth 100000 in
theorem rb_k57 : rb_c57.all (fun q => rb_chk 57 q.1 q.2) = true := by decide +kernel
set_option maxRecDepth 100000 in
theorem rb_k58 : rb_c58.all (fun q => rb_chk 58 q.1 q.2) = true := by decide +kernel
set_option maxRecDepth 100000 in
theorem rb_k59 : rb_c59.all (fun q => rb_chk 59 q.1 q.2) = true := by decide +kernel
set_option maxRecDepth 100000 in
theorem rb_k60 : rb_c60.all (fun q => rb_chk 60 q.1 q.2) = true := by decide +kernel
set_option maxRecDepth 100000 in
theorem rb_k61 : rb_c61.all (fun q => rb_chk 61 q.1 q.2) = true := by decide +kernel
set_option maxRecDepth 100000 in
theorem rb_k62 : rb_c62.all (fun q => rb_chk 62 q.1 q.2) = true := by decide +kernel
set_option maxRecDepth 100000 in
theorem rb_k63 : rb_c63.all (fun q => rb_chk 63 q.1 q.2) = true := by decide +kernel
set_option maxRecDepth 100000 in
theorem rb_k64 : rb_c64.all (fun q => rb_chk 64 q.1 q.2) = true := by decide +kernel
set_option maxRecDepth 100000 in
theorem rb_k65 : rb_c65.all (fun q => rb_chk 65 q.1 q.2) = true := by decide +kernel
end
section
/-! each row of the tables agrees with the bytecode and the words, by the kernel -/
set_option maxRecDepth 100000 in
theorem rb_k66 : rb_c66.all (fun q => rb_chk 66 q.1 q.2) = true := by decide +kernel
set_option maxRecDepth 100000 in
theorem rb_k67 : rb_c67.all (fun q => rb_chk 67 q.1 q.2) = true := by decide +kernel
set_option maxRecDepth 100000 in
theorem rb_k68 : rb_c68.all (fun q => rb_chk 68 q.1 q.2) = true := by decide +kernel
set_option maxRecDepth 100000 in
theorem rb_k69 : rb_c69.all (fun q => rb_chk 69 q.1 q.2) = true := by decide +kernel
set_option maxRecDepth 100000 in
theorem rb_k70 : rb_c70.all (fun q => rb_chk 70 q.1 q.2) = true := by decide +kernel
set_option maxRecDepth 100000 in
theorem rb_k71 : rb_c71.all (fun q => rb_chk 71 q.1 q.2) = true := by decide +kernel
set_option maxRecDepth 100000 in
theorem rb_k72 : rb_c72.all (fun q => rb_chk 72 q.1 q.2) = true := by decide +kernel
set_option maxRecDepth 100000 in
theorem rb_k73 : rb_c73.all (fun q => rb_chk 73 q.1 q.2) = true := by decide +kernel
set_option maxRecDepth 100000 in
theorem rb_k74 : rb_c74.all (fun q => rb_chk 74 q.1 q.2) = true := by decide +kernel
set_option maxRecDepth 100000 in
theorem rb_k75 : rb_c75.all (fun q => rb_chk 75 q.1 q.2) = true := by decide +kernel
set_option maxRecDepth 100000 in
theorem rb_k76 : rb_c76.all (fun q => rb_chk 76 q.1 q.2) = true := by decide +kernel
set_option maxRecDepth 100000 in
theorem rb_k77 : rb_c77.all (fun q => rb_chk 77 q.1 q.2) = true := by decide +kernel
set_option maxRecDepth 100000 in
theorem rb_k78 : rb_c78.all (fun q => rb_chk 78 q.1 q.2) = true := by decide +kernel
set_option maxRecDepth 100000 in
theorem rb_k79 : rb_c79.all (fun q => rb_chk 79 q.1 q.2) = true := by decide +kernel
set_option maxRecDepth 100000 in
theorem rb_k80 : rb_c80.all (fun q => rb_chk 80 q.1 q.2) = true := by decide +kernel
set_option maxRecDepth 100000 in
theorem rb_k81 : rb_c81.all (fun q => rb_chk 81 q.1 q.2) = true := by decide +kernel
set_option maxRecDepth 100000 in
theorem rb_k82 : rb_c82.all (fun q => rb_chk 82 q.1 q.2) = true := by decide +kernel
set_option maxRecDepth 100000 in
theorem rb_k83 : rb_c83.all (fun q => rb_chk 83 q.1 q.2) = true := by decide +kernel
set_option maxRecDepth 100000 in
theorem rb_k84 : rb_c84.all (fun q => rb_chk 84 q.1 q.2) = true := by decide +kernel
set_option maxRecDepth 100000 in
theorem rb_k85 : rb_c85.all (fun q => rb_chk 85 q.1 q.2) = true := by decide +kernel
set_option maxRecDepth 100000 in
theorem rb_k86 : rb_c86.all (fun q => rb_chk 86 q.1 q.2) = true := by decide +kernel
set_option maxRecDepth 100000 in
theorem rb_k87 : rb_c87.all (fun q => rb_chk 87 q.1 q.2) = true := by decide +kernel
end
section
/-! each row of the tables agrees with the bytecode and the words, by the kernel -/
set_option maxRecDepth 100000 in
theorem rb_k88 : rb_c88.all (fun q => rb_chk 88 q.1 q.2) = true := by decide +kernel
set_option maxRecDepth 100000 in
theorem rb_k89 : rb_c89.all (fun q => rb_chk 89 q.1 q.2) = true := by decide +kernel
set_option maxRecDepth 100000 in
theorem rb_k90 : rb_c90.all (fun q => rb_chk 90 q.1 q.2) = true := by decide +kernel
set_option maxRecDepth 100000 in
theorem rb_k91 : rb_c91.all (fun q => rb_chk 91 q.1 q.2) = true := by decide +kernel
set_option maxRecDepth 100000 in
theorem rb_k92 : rb_c92.all (fun q => rb_chk 92 q.1 q.2) = true := by decide +kernel
set_option maxRecDepth 100000 in
theorem rb_k93 : rb_c93.all (fun q => rb_chk 93 q.1 q.2) = true := by decide +kernel
set_option maxRecDepth 100000 in
theorem rb_k94 : rb_c94.all (fun q => rb_chk 94 q.1 q.2) = true := by decide +kernel
set_option maxRecDepth 100000 in
theorem rb_k95 : rb_c95.all (fun q => rb_chk 95 q.1 q.2) = true := by decide +kernel
set_option maxRecDepth 100000 in
theorem rb_k96 : rb_c96.all (fun q => rb_chk 96 q.1 q.2) = true := by decide +kernel
set_option maxRecDepth 100000 in
theorem rb_k97 : rb_c97.all (fun q => rb_chk 97 q.1 q.2) = true := by decide +kernel
set_option maxRecDepth 100000 in
theorem rb_k98 : rb_c98.all (fun q => rb_chk 98 q.1 q.2) = true := by decide +kernel
set_option maxRecDepth 100000 in
theorem rb_k99 : rb_c99.all (fun q => rb_chk 99 q.1 q.2) = true := by decide +kernel
set_option maxRecDepth 100000 in
theorem rb_k100 : rb_c100.all (fun q => rb_chk 100 q.1 q.2) = true := by decide +kernel
set_option maxRecDepth 100000 in
theorem rb_k101 : rb_c101.all (fun q => rb_chk 101 q.1 q.2) = true := by decide +kernel
set_option maxRecDepth 100000 in
theorem rb_k102 : rb_c102.all (fun q => rb_chk 102 q.1 q.2) = true := by decide +kernel
set_option maxRecDepth 100000 in
theorem rb_k103 : rb_c103.all (fun q => rb_chk 103 q.1 q.2) = true := by decide +kernel
set_option maxRecDepth 100000 in
theorem rb_k104 : rb_c104.all (fun q => rb_chk 104 q.1 q.2) = true := by decide +kernel
set_option maxRecDepth 100000 in
theorem rb_k105 : rb_c105.all (fun q => rb_chk 105 q.1 q.2) = true := by decide +kernel
set_option maxRecDepth 100000 in
theorem rb_k106 : rb_c106.all (fun q => rb_chk 106 q.1 q.2) = true := by decide +kernel
set_option maxRecDepth 100000 in
theorem rb_k107 : rb_c107.all (fun q => rb_chk 107 q.1 q.2) = true := by decide +kernel
set_option maxRecDepth 100000 in
theorem rb_k108 : rb_c108.all (fun q => rb_chk 108 q.1 q.2) = true := by decide +kernel
set_option maxRecDepth 100000 in
theorem rb_k109 : rb_c109.all (fun q => rb_chk 109 q.1 q.2) = true := by decide +kernel
set_option maxRecDepth 100000 in
theorem rb_k110 : rb_c110.all (fun q => rb_chk 110 q.1 q.2) = true := by decide +kernel
set_option maxRecDepth 100000 in
theorem rb_k111 : rb_c111.all (fun q => rb_chk 111 q.1 q.2) = true := by decide +kernel
set_option maxRecDepth 100000 in
theorem rb_k112 : rb_c112.all (fun q => rb_chk 112 q.1 q.2) = true := by decide +kernel
set_option maxRecDepth 100000 in
theorem rb_k113 : rb_c113.all (fun q => rb_chk 113 q.1 q.2) = true := by decide +kernel
set_option maxRecDepth 100000 in
theorem rb_k114 : rb_c114.all (fun q => rb_chk 114 q.1 q.2) = true := by decide +kernel
set_option maxRecDepth 100000 in
theorem rb_k115 : rb_c115.all (fun q => rb_chk 115 q.1 q.2) = true := by decide +kernel
set_option maxRecDepth 100000 in
theorem rb_k116 : rb_c116.all (fun q => rb_chk 116 q.1 q.2) = true := by decide +kernel
set_option maxRecDepth 100000 in
theorem rb_k117 : rb_c117.all (fun q => rb_chk 117 q.1 q.2) = true := by decide +kernel
set_option maxRecDepth 100000 in
theorem rb_k118 : rb_c118.all (fun q => rb_chk 118 q.1 q.2) = true := by decide +kernel
set_option maxRecDepth 100000 in
theorem rb_k119 : rb_c119.all (fun q => rb_chk 119 q.1 q.2) = true := by decide +kernel
set_option maxRecDepth 100000 in
theorem rb_k120 : rb_c120.all (fun q => rb_chk 120 q.1 q.2) = true := by decide +kernel
set_option maxRecDepth 100000 in
theorem rb_k121 : rb_c121.all (fun q => rb_chk 121 q.1 q.2) = true := by decide +kernel
set_option maxRecDepth 100000 in
theorem rb_k122 : rb_c122.all (fun q => rb_chk 122 q.1 q.2) = true := by decide +kernel
set_option maxRecDepth 100000 in
theorem rb_k123 : rb_c123.all (fun q => rb_chk 123 q.1 q.2) = true := by decide +kernel
set_option maxRecDepth 100000 in
theorem rb_k124 : rb_c124.all (fun q => rb_chk 124 q.1 q.2) = true := by decide +kernel
set_option maxRecDepth 100000 in
theorem rb_k125 : rb_c125.all (fun q => rb_chk 125 q.1 q.2) = true := by decide +kernel
set_option maxRecDepth 100000 in
theorem rb_k126 : rb_c126.all (fun q => rb_chk 126 q.1 q.2) = true := by decide +kernel
set_option maxRecDepth 100000 in
theorem rb_k127 : rb_c127.all (fun q => rb_chk 127 q.1 q.2) = true := by decide +kernel
set_option maxRecDepth 100000 in
theorem rb_k128 : rb_c128.all (fun q => rb_chk 128 q.1 q.2) = true := by decide +kernel
set_option maxRecDepth 100000 in
theorem rb_k129 : rb_c129.all (fun q => rb_chk 129 q.1 q.2) = true := by decide +kernel
set_option maxRecDepth 100000 in
theorem rb_k130 : rb_c130.all (fun q => rb_chk 130 q.1 q.2) = true := by decide +kernel
set_option maxRecDepth 100000 in
theorem rb_k131 : rb_c131.all (fun q => rb_chk 131 q.1 q.2) = true := by decide +kernel
set_option maxRecDepth 100000 in
theorem rb_k132 : rb_c132.all (fun q => rb_chk 132 q.1 q.2) = true := by decide +kernel
end
section
def rb_chkL : Nat → List (List (Nat × rb_I)) → Prop
  | _, [] => True
  | k, l :: r => l.all (fun q => rb_chk k q.1 q.2) = true ∧ rb_chkL (k + 1) r
theorem rb_chkL_at : ∀ (L : List (List (Nat × rb_I))) (k i : Nat), rb_chkL k L → (L.getD i []).all (fun q => rb_chk (k + i) q.1 q.2) = true
  | [], k, i, _ => by
    cases i <;> rfl
  | l :: r, k, 0, h => h.1
  | l :: r, k, i + 1, h => by
    have := rb_chkL_at r (k + 1) i h.2
    rw [show k + (i + 1) = k + 1 + i by omega]
    exact this
theorem rb_look_mem {pc : Nat} {q : rb_I} : ∀ {L : List (Nat × rb_I)}, rb_look pc L = some q → (pc, q) ∈ L
  | [], h => by cases h
  | x :: r, h => by
    unfold rb_look at h
    split at h
    · rename_i hx
      have e := Nat.eq_of_beq_eq_true hx
      cases h
      rw [← e]
      exact List.mem_cons_self
    · exact List.mem_cons_of_mem _ (rb_look_mem h)
theorem rb_chk_all : rb_chkL 0 rb_code := ⟨rb_k0, rb_k1, rb_k2, rb_k3, rb_k4, rb_k5, rb_k6, rb_k7, rb_k8, rb_k9, rb_k10, rb_k11, rb_k12, rb_k13, rb_k14, rb_k15, rb_k16, rb_k17, rb_k18, rb_k19, rb_k20, rb_k21, rb_k22, rb_k23, rb_k24, rb_k25, rb_k26, rb_k27, rb_k28, rb_k29, rb_k30, rb_k31, rb_k32, rb_k33, rb_k34, rb_k35, rb_k36, rb_k37, rb_k38, rb_k39, rb_k40, rb_k41, rb_k42, rb_k43, rb_k44, rb_k45, rb_k46, rb_k47, rb_k48, rb_k49, rb_k50, rb_k51, rb_k52, rb_k53, rb_k54, rb_k55, rb_k56, rb_k57, rb_k58, rb_k59, rb_k60, rb_k61, rb_k62, rb_k63, rb_k64, rb_k65, rb_k66, rb_k67, rb_k68, rb_k69, rb_k70, rb_k71, rb_k72, rb_k73, rb_k74, rb_k75, rb_k76, rb_k77, rb_k78, rb_k79, rb_k80, rb_k81, rb_k82, rb_k83, rb_k84, rb_k85, rb_k86, rb_k87, rb_k88, rb_k89, rb_k90, rb_k91, rb_k92, rb_k93, rb_k94, rb_k95, rb_k96, rb_k97, rb_k98, rb_k99, rb_k100, rb_k101, rb_k102, rb_k103, rb_k104, rb_k105, rb_k106, rb_k107, rb_k108, rb_k109, rb_k110, rb_k111, rb_k112, rb_k113, rb_k114, rb_k115, rb_k116, rb_k117, rb_k118, rb_k119, rb_k120, rb_k121, rb_k122, rb_k123, rb_k124, rb_k125, rb_k126, rb_k127, rb_k128, rb_k129, rb_k130, rb_k131, rb_k132, trivial⟩
theorem rb_ins_ok {k pc : Nat} {q : rb_I} (h : rb_ins k pc = some q) : rb_chk k pc q = true := by
  have h1 := rb_chkL_at rb_code 0 k rb_chk_all
  rw [Nat.zero_add] at h1
  exact List.all_eq_true.mp h1 (pc, q) (rb_look_mem h)
end
section
/-! multianewarray of two dimensions of ints -/
section RBMA
variable {E : CtlPost} {e : Env} {d : Bool} {acts : List Action}
theorem rb_wpNew {s : State} {cX comp : ClassId} {k : Class} {ty : FieldType} {n : Nat} {init : Value} {Q : Addr → Pre} (hk : s.vm.classes[cX]? = some k) (hkind : k.kind = .array comp ty) (hfit : fits ty init = true) (hlimit : ¬ n > e.platform.arrayLengthLimit) (hheap : ¬ n * componentBytes ty > e.platform.maxHeapBytes)
    (hc : s.heap.size < e.platform.maxCells) (hs : s.slotsUsed + n ≤ e.platform.maxSlots) (hq : ∀ acts', Q s.heap.size d acts' (s.pushCell { cls := cX, slots := Array.replicate n init, vm := .none })) : Sem.wp (Jvm.newArray cX n init) Q E e d acts s := by
  have hfits : ∀ i v, (Array.replicate n init)[i]? = some v → s.fitsSlot cX .none i v = true := by
    intro i v hv
    simp only [Array.getElem?_replicate] at hv
    split at hv
    · cases hv
      simp [State.fitsSlot, State.slotType?, hk, hkind, hfit]
    · cases hv
  simp only [Jvm.newArray, Jvm.arrayFits, Sem.wp_bind', W.ask, W.ite, hlimit, if_false, W.theClass, hk, Option.some.injEq, exists_eq_left', hkind, hheap, Sem.wp_pure', W.alloc, W.stop, Array.size_replicate]
  rw [if_neg (by omega)]
  exact ⟨hc, hs, hfits, hq _⟩
theorem rb_ma {Q : Unit → Pre} {T : State} {g : JFrame} {index : Nat} {cB cI comp : ClassId} {kB kI : Class} {n1 n2 : Int32} {rest : List Value} (hs : T.topJava?.isSome) (hr : T.vm.classReady g.method.cls index cB) (hkB : T.vm.classes[cB]? = some kB) (hkindB : kB.kind = .array cI (.array .int)) (hkI : T.vm.classes[cI]? = some kI) (hkindI : kI.kind = .array comp .int)
    (hstack : g.stack = .int n2 :: .int n1 :: rest) (h1 : ¬ n1 < 1) (h2 : ¬ n2 < 0) (I : Nat → State → Prop) (hvm : ∀ j U, I j U → U.vm = T.vm ∧ U.topJava?.isSome)
    (hl1 : ¬ n1.toNatClampNeg > e.platform.arrayLengthLimit) (hl2 : ¬ n2.toNatClampNeg > e.platform.arrayLengthLimit) (hh1 : ¬ n1.toNatClampNeg * componentBytes (.array .int) > e.platform.maxHeapBytes) (hh2 : ¬ n2.toNatClampNeg * componentBytes .int > e.platform.maxHeapBytes)
    (h0 : I 0 (T.pushCell { cls := cB, slots := Array.replicate n1.toNatClampNeg .null, vm := .none })) (hroom0 : T.heap.size < e.platform.maxCells ∧ T.slotsUsed + n1.toNatClampNeg ≤ e.platform.maxSlots)
    (hstep : ∀ j U, j < n1.toNatClampNeg → I j U → U.heap.size < e.platform.maxCells ∧ U.slotsUsed + n2.toNatClampNeg ≤ e.platform.maxSlots ∧ ∃ cell : Cell, (U.pushCell { cls := cI, slots := Array.replicate n2.toNatClampNeg (.int 0), vm := .none }).heap[T.heap.size]? = some cell ∧ cell.vm = .none ∧ cell.cls = cB ∧ j < cell.slots.size ∧ I (j + 1) ((U.pushCell { cls := cI, slots := Array.replicate n2.toNatClampNeg (.int 0), vm := .none }).setCell T.heap.size (cell.setSlot j (.ref U.heap.size))))
    (hq : ∀ U d acts, I n1.toNatClampNeg U → Q () d acts (U.setTop { g with stack := .ref T.heap.size :: rest })) : Sem.wp (Op.multianewarray.sem index 2) Q E e d acts (T.setTop g) := by
  have h1' : ¬ n1 < 0 := by
    rw [Int32.lt_iff_toInt_lt] at h1 ⊢
    have e1 : (1 : Int32).toInt = 1 := by decide
    have e0 : (0 : Int32).toInt = 0 := by decide
    omega
  have h1'' : (n1 == 0) = false := by
    rw [beq_eq_false_iff_ne]
    intro q
    subst q
    exact h1 (by decide)
  simp only [Op.multianewarray.sem, Sem.wp_bind', W.resolveClassAt_ready (State.method?_setTop g hs) hr]
  simp [Jvm.popN, hs, hstack]
  rw [Op.multianewarray.make]
  simp only [Sem.wp_bind', W.ite, h1', if_false, Sem.wp_pure', W.theClass, State.vm_setTop, hkB, Option.some.injEq, exists_eq_left', hkindB]
  refine rb_wpNew (s := T.setTop _) (k := kB) (comp := cI) (ty := .array .int) hkB hkindB rfl hl1 hh1 hroom0.1 hroom0.2 (fun acts' => ?_)
  simp only [Sem.wp_bind', h1'', Bool.false_eq_true, if_false, Sem.wp_pure', Std.Legacy.Range.forIn_eq_forIn_range', Std.Legacy.Range.size, State.heap_setTop, State.pushCell_setTop]
  rw [show (n1.toNatClampNeg - 0 + 1 - 1) / 1 = n1.toNatClampNeg by omega]
  refine wp_forIn_inv (fun l s' => ∃ j U, j ≤ n1.toNatClampNeg ∧ l = List.range' j (n1.toNatClampNeg - j) ∧ s' = U.setTop { g with stack := rest } ∧ I j U) _ _ ⟨0, _, Nat.zero_le _, rfl, rfl, h0⟩ ?_ ?_
  · rintro x r s' d' acts' Q' ⟨j, U, hj, hl, rfl, hI⟩ hk
    have hjl : j < n1.toNatClampNeg := by
      refine Nat.lt_of_le_of_ne hj (fun q => ?_)
      subst q
      rw [Nat.sub_self] at hl
      cases hl
    rw [show n1.toNatClampNeg - j = (n1.toNatClampNeg - (j + 1)) + 1 by omega, List.range'_succ] at hl
    obtain ⟨rfl, rfl⟩ := List.cons.inj hl
    obtain ⟨r1, r2, cell, hcell, hcv, hcc, hcs, hI2⟩ := hstep x U hjl hI
    obtain ⟨v1, v2⟩ := hvm x U hI
    rw [← v1] at hkI hkB
    rw [Op.multianewarray.make]
    simp only [Sem.wp_bind', W.ite, h2, if_false, Sem.wp_pure', W.theClass, State.vm_setTop, hkI, Option.some.injEq, exists_eq_left', hkindI]
    refine rb_wpNew (s := U.setTop _) (k := kI) (comp := comp) (ty := .int) hkI hkindI rfl hl2 hh2 r1 r2 (fun acts' => ?_)
    simp only [State.heap_setTop, State.pushCell_setTop]
    have hfit : U.fitsSlot cell.cls cell.vm x (.ref U.heap.size) = true := by
      rw [hcv, hcc]
      simp [State.fitsSlot, State.slotType?, hkB, hkindB, fits]
    simp [defaultValue]
    exact ⟨cell, hcell, (by rw [hcv]; exact fun h => (by cases h)), hcs, hfit, hk _ _ _ ⟨x + 1, _, hjl, rfl, rfl, hI2⟩⟩
  · rintro s' d' acts' ⟨j, U, hj, hl, rfl, hI⟩
    have hjl : j = n1.toNatClampNeg := by
      refine Nat.le_antisymm hj (Nat.not_lt.mp fun q => ?_)
      rw [show n1.toNatClampNeg - j = (n1.toNatClampNeg - (j + 1)) + 1 by omega, List.range'_succ] at hl
      cases hl
    subst hjl
    obtain ⟨v1, v2⟩ := hvm _ U hI
    simp [v2]
    exact hq _ _ _ hI
end RBMA
end
section
def rb_U (T : State) (cB cI : ClassId) (N1 N2 : Nat) : Nat → State
  | 0 => T.pushCell { cls := cB, slots := Array.replicate N1 .null, vm := .none }
  | j + 1 => ((rb_U T cB cI N1 N2 j).pushCell { cls := cI, slots := Array.replicate N2 (.int 0), vm := .none }).setCell T.heap.size ((arrV cB N1 (fun i => if i < j then .ref (T.heap.size + 1 + i) else .null)).setSlot j (.ref (rb_U T cB cI N1 N2 j).heap.size))
section RBMB
variable {p : Program} {l : Launch} {e : Env} {R : Room} {s : State} {m : MethodId} {args : Array Value} {below : List Frame} {meth : Method} {c : Code} {H : Heap} {locs : List Loc} {cells slots : Nat} {Q : State → Prop}
theorem rb_U_facts {T : State} {cB cI : ClassId} {N1 N2 : Nat} (X : Stand p l e R s m args below meth c T locs cells slots) (hT : s.heap.size ≤ T.heap.size) : ∀ j, j ≤ N1 → Stand p l e R s m args below meth c (rb_U T cB cI N1 N2 j) locs (cells + 1 + j) (slots + N1 + j * N2) ∧ (rb_U T cB cI N1 N2 j).vm = T.vm ∧ (rb_U T cB cI N1 N2 j).heap.size = T.heap.size + 1 + j ∧ (∀ q, q < T.heap.size → (rb_U T cB cI N1 N2 j).heap[q]? = T.heap[q]?) ∧ (rb_U T cB cI N1 N2 j).heap[T.heap.size]? = some (arrV cB N1 (fun i => if i < j then .ref (T.heap.size + 1 + i) else .null)) ∧ ∀ i, i < j → (rb_U T cB cI N1 N2 j).heap[T.heap.size + 1 + i]? = some (arrV cI N2 (fun _ => .int 0))
  | 0, _ => by
    have X1 := X.pushed { cls := cB, slots := Array.replicate N1 .null, vm := .none }
    have X2 : Stand p l e R s m args below meth c (rb_U T cB cI N1 N2 0) locs (cells + 1 + 0) (slots + N1 + 0 * N2) := by
      rw [Nat.add_zero, Nat.zero_mul, Nat.add_zero]
      simp only [Array.size_replicate] at X1
      exact X1
    refine ⟨X2, rfl, by show (T.heap.push _).size = _; simp, fun q hq => ?_, ?_, fun i hi => absurd hi (Nat.not_lt_zero i)⟩
    · show (T.heap.push _)[q]? = _
      rw [Array.getElem?_push, if_neg (Nat.ne_of_lt hq)]
    · show (T.heap.push _)[T.heap.size]? = _
      rw [Array.getElem?_push_size, arrV_new]
      congr 2
  | j + 1, hj => by
    obtain ⟨X0, v0, z0, o0, a0, r0⟩ := rb_U_facts (cB := cB) (cI := cI) (N1 := N1) (N2 := N2) X hT j (by omega)
    have X1 := X0.pushed { cls := cI, slots := Array.replicate N2 (.int 0), vm := .none }
    have hz1 : ((rb_U T cB cI N1 N2 j).pushCell { cls := cI, slots := Array.replicate N2 (.int 0), vm := .none }).heap.size = T.heap.size + 1 + j + 1 := by
      show ((rb_U T cB cI N1 N2 j).heap.push _).size = _
      rw [Array.size_push, z0]
    have ha1 : ((rb_U T cB cI N1 N2 j).pushCell { cls := cI, slots := Array.replicate N2 (.int 0), vm := .none }).heap[T.heap.size]? = some (arrV cB N1 (fun i => if i < j then .ref (T.heap.size + 1 + i) else .null)) := by
      show ((rb_U T cB cI N1 N2 j).heap.push _)[T.heap.size]? = _
      rw [Array.getElem?_push, if_neg (by omega)]
      exact a0
    have X2 := X1.stored ha1 j (.ref (rb_U T cB cI N1 N2 j).heap.size)
    have X3 := Stand.forget X2 (fun y hy => by rw [List.mem_singleton.mp hy]; exact hT)
    have hsl : slots + N1 + (j + 1) * N2 = slots + N1 + j * N2 + N2 := by rw [Nat.add_mul]; omega
    refine ⟨?_, v0, ?_, fun q hq => ?_, ?_, fun i hi => ?_⟩
    · rw [hsl]
      simp only [Array.size_replicate] at X3
      exact X3
    · show (State.setCell _ _ _).heap.size = _
      rw [size_setCell, hz1]
      omega
    · show (State.setCell _ _ _).heap[q]? = _
      have hne : T.heap.size ≠ q := by omega
      rw [heapAt_setCell_ne _ hne]
      show ((rb_U T cB cI N1 N2 j).heap.push _)[q]? = _
      rw [Array.getElem?_push, if_neg (by omega)]
      exact o0 q hq
    · show (State.setCell _ _ _).heap[T.heap.size]? = _
      have hlt : T.heap.size < ((rb_U T cB cI N1 N2 j).pushCell { cls := cI, slots := Array.replicate N2 (.int 0), vm := .none }).heap.size := by rw [hz1]; omega
      rw [heapAt_setCell_self _ hlt, arrV_store]
      congr 2
      funext i
      unfold updV
      rw [z0]
      by_cases h9 : i = j
      · subst h9
        simp
      · rw [if_neg h9]
        dsimp only
        by_cases h8 : i < j
        · rw [if_pos h8, if_pos (by omega)]
        · rw [if_neg h8, if_neg (by omega)]
    · show (State.setCell _ _ _).heap[T.heap.size + 1 + i]? = _
      have hne : T.heap.size ≠ T.heap.size + 1 + i := by omega
      rw [heapAt_setCell_ne _ hne]
      show ((rb_U T cB cI N1 N2 j).heap.push _)[T.heap.size + 1 + i]? = _
      rw [Array.getElem?_push]
      by_cases h9 : i = j
      · rw [if_pos (by omega), arrV_new]
      · rw [if_neg (by omega)]
        exact r0 i (by omega)
theorem rb_ma_cold {Q : Unit → Pre} {E : CtlPost} {d : Bool} {acts : List Action} {T : State} {f : JFrame} {index : Nat} {cX : Nat} {vm' : Vm} (hs : T.topJava?.isSome) (hg : (Jvm.resolveClass f.method.cls index).Gives e.toSetting T.vm (.ok cX) vm') (hr : vm'.classReady f.method.cls index cX) (hsz : vm'.classes.size ≤ T.vm.classes.size) :
    Sem.wp (Op.multianewarray.sem index 2) Q E e d acts (T.setTop f) ↔ Sem.wp (Op.multianewarray.sem index 2) Q E e d acts ((T.setVm vm').setTop f) := by
  simp only [Op.multianewarray.sem, Sem.wp_bind']
  exact W.resolveClassAt_transfer (s := T.setTop f) (State.method?_setTop f hs) hg hr hsz
end RBMB
end
section
section RBMC
variable {p : Program} {l : Launch} {e : Env} {R : Room} {s : State} {m : MethodId} {args : Array Value} {below : List Frame} {meth : Method} {c : Code} {H : Heap} {locs : List Loc} {cells slots : Nat} {Q : State → Prop}
theorem rb_W2 {cc : ByteArray} {pc : Nat} {arr : Array Slot} (hexec : p.tables.exec = Jvm.exec) (hb : c.code = cc) {own : String} {index : Nat} (hown : s.vm.findClass own = some m.cls) (hclink : (Cond.classLink own index "[[I").before args s = true) (hover : (Cond.arrayOver (.array .int)).before args s = true) (harr : (Cond.arrayClass .int).before args s = true) {n1 n2 : Int32} {rest : List Value} (h1 : ¬ n1 < 1) (h2 : ¬ n2 < 0) (hb1 : n1.toNatClampNeg ≤ 1000) (hb2 : n2.toNatClampNeg ≤ 1000) (hdg : decode cc pc = .ok (.multianewarray index 2, 4))
    (hcells : cells + (1 + n1.toNatClampNeg) ≤ R.cells) (hslots : slots + (n1.toNatClampNeg + n1.toNatClampNeg * n2.toNatClampNeg) ≤ R.slots)
    (kk : ∀ (H' : Heap) (cB cI : ClassId), s.vm.findClass "[[I" = some cB → s.vm.findClass "[I" = some cI → H'.size = H.size + 1 + n1.toNatClampNeg → (∀ q, q < H.size → H'[q]? = H[q]?) → H'[H.size]? = some (arrV cB n1.toNatClampNeg (fun i => if i < n1.toNatClampNeg then .ref (H.size + 1 + i) else .null)) → (∀ i, i < n1.toNatClampNeg → H'[H.size + 1 + i]? = some (arrV cI n2.toNatClampNeg (fun _ => .int 0))) →
      W p l e R s m args below meth c H' locs (cells + 1 + n1.toNatClampNeg) (slots + n1.toNatClampNeg + n1.toNatClampNeg * n2.toNatClampNeg) Q (F0 m (pc + 4) arr (.ref H.size :: rest))) : W p l e R s m args below meth c H locs cells slots Q (F0 m pc arr (.int n2 :: .int n1 :: rest)) := by
  intro T hT X
  subst hT; subst hb
  have hpl : e.platform.magicAccessors = ({} : Platform).magicAccessors := by rw [X.admits.platform]
  obtain ⟨cI, cB, kB, hcI, hidx, hkB, hkindB, hnameB⟩ := arrayOverA_spec hover
  obtain ⟨cI', kI, comp, hnI, hkI, hkindI⟩ := Cond.arrayClass_spec harr
  have e1 : (FieldType.array .int).toString = "[I" := by decide
  have e2 : ("[" ++ (FieldType.array .int).toString) = "[[I" := by decide
  have e3 : ("[" ++ FieldType.int.toString) = "[I" := by decide
  rw [e1] at hcI
  rw [e2] at hnameB
  rw [e3] at hnI
  cases hcI.symm.trans hnI
  obtain ⟨cc', hfcc, hcl⟩ := Cond.classLink_spec hown hclink e.platform hpl
  cases hnameB.symm.trans hfcc
  obtain ⟨hg₁, hwarm₁, hready₁⟩ := State.classEntry (e := e) X.warmed hcl
  generalize T.vm.noted m.cls index (.cls cB) = vm₁ at hg₁ hwarm₁ hready₁
  have hal : s.vm.Alike vm₁ := hwarm₁.alike
  obtain ⟨kB₁, hkB₁, heB⟩ := hal.2.2 _ _ hkB
  obtain ⟨kI₁, hkI₁, heI⟩ := hal.2.2 _ _ hkI
  have hkindB₁ : kB₁.kind = .array cI (.array .int) := by rw [heB]; exact hkindB
  have hkindI₁ : kI₁.kind = .array comp .int := by rw [heI]; exact hkindI
  have X₁ := X.noted hwarm₁
  have hge : s.heap.size ≤ (T.setVm vm₁).heap.size := X.same.2.1
  have F := rb_U_facts (cB := cB) (cI := cI) (N1 := n1.toNatClampNeg) (N2 := n2.toNatClampNeg) X₁ hge
  obtain ⟨XN, vN, zN, oN, aN, rN⟩ := F n1.toNatClampNeg (Nat.le_refl _)
  obtain ⟨t', a1, b1⟩ := kk _ cB cI hnameB hcI zN oN aN rN _ rfl XN
  have hlim := Launch.admits_arrayLengthLimit X.admits
  have hhp := Launch.admits_maxHeapBytes X.admits
  refine ⟨t', ?_, b1⟩
  jvm_step X.here [hexec, hdg]
  rw [rb_ma_cold (f := F0 m pc arr (.int n2 :: .int n1 :: rest)) X.here.top hg₁ hready₁ (by no_record)]
  refine rb_ma (T := T.setVm vm₁) (g := F0 m pc arr (.int n2 :: .int n1 :: rest)) (rest := rest) X.here.top hready₁ hkB₁ hkindB₁ hkI₁ hkindI₁ rfl h1 h2 (fun j U => j ≤ n1.toNatClampNeg ∧ U = rb_U (T.setVm vm₁) cB cI n1.toNatClampNeg n2.toNatClampNeg j) ?_ (by rw [hlim]; omega) (by rw [hlim]; omega) (by rw [hhp]; show ¬ n1.toNatClampNeg * 4 > 536870912; omega) (by rw [hhp]; show ¬ n2.toNatClampNeg * 4 > 536870912; omega) ⟨Nat.zero_le _, rfl⟩ ?_ ?_ ?_
  · rintro j U ⟨hj, rfl⟩
    obtain ⟨Xj, vj, -⟩ := F j hj
    exact ⟨vj, Xj.here.top⟩
  · have := X₁.roomAbove (a := 1) (b := n1.toNatClampNeg) (by omega) (by omega)
    exact ⟨by have := this.1; omega, this.2⟩
  · rintro j U hj ⟨hj2, rfl⟩
    obtain ⟨Xj, vj, zj, oj, aj, rj⟩ := F j hj2
    have hmul : (j + 1) * n2.toNatClampNeg ≤ n1.toNatClampNeg * n2.toNatClampNeg := Nat.mul_le_mul_right _ hj
    rw [Nat.add_mul] at hmul
    have hrm := Xj.roomAbove (a := 1) (b := n2.toNatClampNeg) (by omega) (by omega)
    refine ⟨by have := hrm.1; omega, hrm.2, _, ?_, rfl, rfl, ?_, hj, rfl⟩
    · show ((rb_U (T.setVm vm₁) cB cI n1.toNatClampNeg n2.toNatClampNeg j).heap.push _)[(T.setVm vm₁).heap.size]? = _
      rw [Array.getElem?_push, if_neg (by omega)]
      exact aj
    · rw [arrV_size]
      exact hj
  · rintro U d acts ⟨hj, rfl⟩
    intro acts9
    rw [afterInstr_ok]
    exact a1
end RBMC
end
section
section RBMD
variable {s : State} {H H1 : Heap} {locs : List Loc} {cells slots : Nat} {D : va_G} {cA : Nat → ClassId} {b : Nat} {A : Nat → Prop} {h0 h : rb_H}
theorem rb_Inv.push2 {N1 N2 : Nat} (hI : rb_Inv D cA b A s.heap h0 h H locs cells slots) (hA : ∀ q, s.heap.size ≤ q → A q) (hsz : H.size = b + h.1) (hz : H1.size = H.size + 1 + N1) (ho : ∀ q, q < H.size → H1[q]? = H[q]?) (h6 : H1[H.size]? = some (arrV (cA 6) N1 (fun i => if i < N1 then .ref (H.size + 1 + i) else .null))) (hr : ∀ i, i < N1 → H1[H.size + 1 + i]? = some (arrV (cA 0) N2 (fun _ => .int 0))) : rb_Inv D cA b A s.heap h0 (rb_h2 h N1 N2) H1 locs (cells + 1 + N1) (slots + N1 + N1 * N2) := by
  obtain ⟨hP, hD, hS, hbl, hc, hs⟩ := hI
  have hS1 := hS.1
  have low : ∀ i, i < h.1 → (rb_h2 h N1 N2).2.2 i = h.2.2 i := fun i hi => by
    show (if i < h.1 then _ else _) = _
    rw [if_pos hi]
  have mid : (rb_h2 h N1 N2).2.2 h.1 = .inl (6, N1, .inr (.inr (.inr (.inr (fun j => if j < N1 then some (h.1 + 1 + j) else none))))) := by
    show (if h.1 < h.1 then _ else if h.1 = h.1 then _ else _) = _
    rw [if_neg (Nat.lt_irrefl _), if_pos rfl]
  have up : ∀ j, j < N1 → (rb_h2 h N1 N2).2.2 (h.1 + 1 + j) = .inl (0, N2, .inl (fun _ => 0)) := fun j hj => by
    show (if h.1 + 1 + j < h.1 then _ else if h.1 + 1 + j = h.1 then _ else if h.1 + 1 + j < h.1 + 1 + N1 then _ else _) = _
    rw [if_neg (by omega), if_neg (by omega), if_pos (by omega)]
  have key : ∀ (k : Nat) (q : Nat × va_E), (rb_w b cA (rb_h2 h N1 N2))[k]? = some q → k < h.1 + 1 + N1 ∧ q = (b + k, rb_rc b cA ((rb_h2 h N1 N2).2.2 k)) := by
    intro k q hq
    have hk : k < (rb_h2 h N1 N2).1 := by
      have := (List.getElem?_eq_some_iff.mp hq).1
      rw [rb_w_len] at this
      exact this
    rw [rb_w_get hk] at hq
    exact ⟨hk, (Option.some.inj hq).symm⟩
  refine ⟨fun k q hq => ?_, ⟨fun i j x y hx hy hxy => ?_, fun k q hq => ?_⟩, ⟨by omega, fun q h8 h9 => ?_, hS.2.2⟩, fun i hi => ?_, by show h0.1 + (cells + 1 + N1) = h.1 + 1 + N1; omega, by show h0.2.1 + (slots + N1 + N1 * N2) = h.2.1 + N1 + N1 * N2; omega⟩
  · obtain ⟨hk, rfl⟩ := key k q hq
    by_cases h9 : k < h.1
    · rw [low k h9]
      refine (hP k _ (rb_w_get h9)).kept ?_
      exact ho (b + k) (by omega)
    · by_cases h8 : k = h.1
      · subst h8
        rw [mid]
        show H1[b + h.1]? = some (vp_cell (cA 6) (N1, .inr (.inr (.inr (.inr _)))))
        rw [vp_cell_q, ← hsz, h6]
        congr 2
        funext i
        by_cases h7 : i < N1
        · simp [h7, va_rf, hsz, Nat.add_assoc]
        · simp [h7, va_rf]
      · obtain ⟨j, rfl⟩ : ∃ j, k = h.1 + 1 + j := ⟨k - h.1 - 1, by omega⟩
        have hj : j < N1 := by omega
        rw [up j hj]
        show H1[b + (h.1 + 1 + j)]? = some (vp_cell (cA 0) (N2, .inl _))
        rw [vp_cell_i, show b + (h.1 + 1 + j) = H.size + 1 + j by omega]
        exact hr j hj
  · obtain ⟨hi, rfl⟩ := key i x hx
    obtain ⟨hj, rfl⟩ := key j y hy
    dsimp only at hxy
    omega
  · obtain ⟨hk, rfl⟩ := key k q hq
    by_cases h9 : k < h.1
    · exact hD.2 k (b + k, rb_rc b cA (h.2.2 k)) (rb_w_get h9)
    · exact hA _ (by show s.heap.size ≤ b + k; omega)
  · rw [ho q (by omega)]
    exact hS.2.1 q h8 h9
  · have hi : h.1 + 1 + N1 ≤ i := hi
    show (if i < h.1 then _ else if i = h.1 then _ else if i < h.1 + 1 + N1 then _ else rb_blank) = rb_blank
    rw [if_neg (by omega), if_neg (by omega), if_neg (by omega)]
end RBMD
end
section
/-- what the making of cells asks of the tables beside the words -/
def rb_E (U : State) : Prop := (∀ C ∈ rb_aos, va_AO C U) ∧ (Cond.arrayOver (.array .int)).before #[] U = true ∧ ∀ w ∈ rb_wN, va_Nw w U
section RBY
variable {p : Program} {l : Launch} {e : Env} {R : Room} {s : State} {m : MethodId} {args : Array Value} {below : List Frame} {meth : Method} {c : Code} {H : Heap} {locs : List Loc} {cells slots : Nat} {Q : State → Prop}
variable {D : va_G} {cA : Nat → ClassId} {b : Nat} {A : Nat → Prop} {h0 h : rb_H} {k pc : Nat} {ls st : List Value} {arr : Array Slot} {al : Bool}
theorem rb_ai_in : Cond.arrayClass .int ∈ rb_ws := rb_hasO_mem (by decide +kernel)
theorem rb_size (hI : rb_Inv D cA b A s.heap h0 h H locs cells slots) (hal : s.heap.size = b + h0.1) (hz : H.size ≤ s.heap.size + cells) : H.size = b + h.1 := by
  have h1 := hI.2.2.2.2.1
  have h2 := hI.2.2.1.1
  refine Nat.le_antisymm (by omega) ?_
  by_cases h9 : h.1 = 0
  · omega
  · have h3 := (hI.1 _ _ (rb_w_get (b := b) (cA := cA) (h := h) (i := h.1 - 1) (by omega))).lt
    have h4 : b + (h.1 - 1) < H.size := h3
    omega
theorem rb_L.seti {i : Nat} {x : Int32} (hi : i < ls.length) (h' : lv_has arr ls.length ((i, .int x) :: (rb_ll b ls).filter (fun q => !(q.1 == i) && !(q.1 + 1 == i && q.2.category == 2)))) : rb_L b (ls.set i (.int x)) arr := rb_L.set (v := .int x) hi h'
theorem rb_L.setr {i a : Nat} (hi : i < ls.length) (h' : lv_has arr ls.length ((i, .ref (b + a)) :: (rb_ll b ls).filter (fun q => !(q.1 == i) && !(q.1 + 1 == i && q.2.category == 2)))) : rb_L b (ls.set i (.ref a)) arr := rb_L.set (v := .ref a) hi h'
theorem rb_L.setn {i : Nat} (hi : i < ls.length) (h' : lv_has arr ls.length ((i, .null) :: (rb_ll b ls).filter (fun q => !(q.1 == i) && !(q.1 + 1 == i && q.2.category == 2)))) : rb_L b (ls.set i .null) arr := rb_L.set (v := .null) hi h'
theorem rb_cat1 {v : Value} (h : rb_ok v = true) : (rb_rv b v).category = 1 := rb_rv_cat h
theorem rb_catsum : ∀ {r : List Value}, r.all rb_ok = true → ((r.map (rb_rv b)).map fun v => v.category).sum = r.length
  | [], _ => rfl
  | v :: r, h => by
    rw [List.all_cons, Bool.and_eq_true] at h
    simp only [List.map_cons, List.sum_cons, List.length_cons]
    rw [rb_rv_cat h.1, rb_catsum h.2]
    omega
set_option maxHeartbeats 8000000 in
set_option maxRecDepth 100000 in
theorem rb_stepW (hx : p.tables.exec = Jvm.exec) (hb : c.code = rb_b k) (hml : c.maxLocals = rb_ml k) (hts : ∀ w ∈ rb_ws, w.before args s = true) (hown : s.vm.findClass (rb_on k) = some m.cls) (hnm : meth.name = (rb_y k).name) (hK : va_K D rb_cl (rb_tys cA) s)
    (hA : ∀ q, s.heap.size ≤ q → A q) (hR : 1 ≤ R.frames ∧ 40 ≤ R.locals) (hal : al = true → s.heap.size = b + h0.1 ∧ (∀ q, A q → b ≤ q) ∧ rb_E s)
    {q : rb_I} (hq : rb_chk k pc q = true) {x : Nat × List Value × List Value × rb_H} (hs : rb_step k al q.1 q.2.1 q.2.2.1 q.2.2.2.1 q.2.2.2.2 ls st h = some (.inl x))
    (hI : rb_Inv D cA b A s.heap h0 h H locs cells slots) (hL : rb_L b ls arr) (hlen : ls.length = rb_ml k) (hroom : x.2.2.2.1 ≤ h0.1 + R.cells ∧ x.2.2.2.2.1 ≤ h0.2.1 + R.slots)
    (kk : ∀ (H1 : Heap) (locs1 : List Loc) (cells1 slots1 : Nat) (arr1 : Array Slot), rb_Inv D cA b A s.heap h0 x.2.2.2 H1 locs1 cells1 slots1 → rb_L b x.2.1 arr1 → x.2.1.length = rb_ml k → W p l e R s m args below meth c H1 locs1 cells1 slots1 Q (F0 m x.1 arr1 (x.2.2.1.map (rb_rv b)))) :
    W p l e R s m args below meth c H locs cells slots Q (F0 m pc arr (st.map (rb_rv b))) := by
  obtain ⟨i, nx, a, b', kc⟩ := q
  cases i with
  | iconst n =>
    obtain ⟨hd, hn, hm⟩ := rb_chk_dec hq rfl
    dsimp only at hn
    subst hn
    obtain rfl := rb_go_inv hs
    exact lv_iconst (v := kc) hx hb hd (of_decide_eq_true hm) (kk H locs cells slots arr hI hL hlen)
  | bipush n =>
    obtain ⟨hd, hn, hm⟩ := rb_chk_dec hq rfl
    dsimp only at hn
    subst hn
    obtain rfl := rb_go_inv hs
    exact lv_bipush (v := kc) hx hb hd (of_decide_eq_true hm) (kk H locs cells slots arr hI hL hlen)
  | sipush n =>
    obtain ⟨hd, hn, hm⟩ := rb_chk_dec hq rfl
    dsimp only at hn
    subst hn
    obtain rfl := rb_go_inv hs
    exact lv_sipush (v := kc) hx hb hd (of_decide_eq_true hm) (kk H locs cells slots arr hI hL hlen)
  | aconst_null =>
    obtain ⟨hd, hn, hm⟩ := rb_chk_dec hq rfl
    dsimp only at hn
    subst hn
    obtain rfl := rb_go_inv hs
    exact lv_null hx hb hd (kk H locs cells slots arr hI hL hlen)
  | iload j =>
    obtain ⟨hd, hn, hm⟩ := rb_chk_dec hq rfl
    dsimp only at hn
    subst hn
    obtain ⟨v, hv, rfl⟩ := rb_ldi_inv hs
    exact lv_iload hx hb hd (hL.at hv rfl) (kk H locs cells slots arr hI hL hlen)
  | iload_n j =>
    obtain ⟨hd, hn, hm⟩ := rb_chk_dec hq rfl
    dsimp only at hn
    subst hn
    obtain ⟨v, hv, rfl⟩ := rb_ldi_inv hs
    exact lv_iload_n hx hb hd rfl (hL.at hv rfl) (kk H locs cells slots arr hI hL hlen)
  | aload j =>
    obtain ⟨hd, hn, hm⟩ := rb_chk_dec hq rfl
    dsimp only at hn
    subst hn
    obtain ⟨v, hv, hr, rfl⟩ := rb_lda_inv hs
    rcases hr with rfl | ⟨a, rfl⟩
    · exact lv_aloadN hx hb hd (hL.at hv rfl) (kk H locs cells slots arr hI hL hlen)
    · exact lv_aload hx hb hd (hL.at hv rfl) (kk H locs cells slots arr hI hL hlen)
  | aload_n j =>
    obtain ⟨hd, hn, hm⟩ := rb_chk_dec hq rfl
    dsimp only at hn
    subst hn
    obtain ⟨v, hv, hr, rfl⟩ := rb_lda_inv hs
    rcases hr with rfl | ⟨a, rfl⟩
    · exact lv_aload_nN hx hb hd rfl (hL.at hv rfl) (kk H locs cells slots arr hI hL hlen)
    · exact lv_aload_n hx hb hd rfl (hL.at hv rfl) (kk H locs cells slots arr hI hL hlen)
  | istore j =>
    obtain ⟨hd, hn, hm⟩ := rb_chk_dec hq rfl
    dsimp only at hn
    subst hn
    obtain ⟨v, r, rfl, hj, rfl⟩ := rb_sti_inv hs
    exact lv_istore hx hb hd hL.lv hj rfl (fun ls' h' => kk H locs cells slots ls' hI (rb_L.seti hj h') (by rw [List.length_set]; exact hlen))
  | istore_n j =>
    obtain ⟨hd, hn, hm⟩ := rb_chk_dec hq rfl
    dsimp only at hn
    subst hn
    obtain ⟨v, r, rfl, hj, rfl⟩ := rb_sti_inv hs
    exact lv_istore_n hx hb hd rfl hL.lv hj rfl (fun ls' h' => kk H locs cells slots ls' hI (rb_L.seti hj h') (by rw [List.length_set]; exact hlen))
  | astore j =>
    obtain ⟨hd, hn, hm⟩ := rb_chk_dec hq rfl
    dsimp only at hn
    subst hn
    obtain ⟨v, r, rfl, hr, hj, rfl⟩ := rb_sta_inv hs
    rcases hr with rfl | ⟨a, rfl⟩
    · exact lv_astoreN hx hb hd hL.lv hj rfl (fun ls' h' => kk H locs cells slots ls' hI (rb_L.setn hj h') (by rw [List.length_set]; exact hlen))
    · exact lv_astore hx hb hd hL.lv hj rfl (fun ls' h' => kk H locs cells slots ls' hI (rb_L.setr hj h') (by rw [List.length_set]; exact hlen))
  | astore_n j =>
    obtain ⟨hd, hn, hm⟩ := rb_chk_dec hq rfl
    dsimp only at hn
    subst hn
    obtain ⟨v, r, rfl, hr, hj, rfl⟩ := rb_sta_inv hs
    rcases hr with rfl | ⟨a, rfl⟩
    · exact lv_astore_nN hx hb hd rfl hL.lv hj rfl (fun ls' h' => kk H locs cells slots ls' hI (rb_L.setn hj h') (by rw [List.length_set]; exact hlen))
    · exact lv_astore_n hx hb hd rfl hL.lv hj rfl (fun ls' h' => kk H locs cells slots ls' hI (rb_L.setr hj h') (by rw [List.length_set]; exact hlen))
  | iinc j n =>
    obtain ⟨hd, hn, hm⟩ := rb_chk_dec hq rfl
    dsimp only at hn
    subst hn
    obtain ⟨v, hv, rfl⟩ := rb_inc_inv hs
    have hj : j < ls.length := (List.getElem?_eq_some_iff.mp hv).1
    obtain ⟨t, ht⟩ := List.getElem?_of_mem ((rb_ll_mem (b := b) (ls := ls) (q := (j, .int v))).mpr ⟨.int v, hv, rfl, rfl⟩)
    have hm : Int32.ofInt n = kc := of_decide_eq_true hm
    exact lv_iinc (k := t) (v := v + kc) hx hb hd hL.lv ht (by rw [hm]) hj rfl (fun ls' h' => kk H locs cells slots ls' hI (rb_L.seti hj h') (by rw [List.length_set]; exact hlen))
  | iadd =>
    obtain ⟨hd, hn, hm⟩ := rb_chk_dec hq rfl
    dsimp only at hn
    subst hn
    obtain ⟨u, v, r, rfl, rfl⟩ := rb_bin_inv hs
    exact lv_iadd hx hb hd (kk H locs cells slots arr hI hL hlen)
  | isub =>
    obtain ⟨hd, hn, hm⟩ := rb_chk_dec hq rfl
    dsimp only at hn
    subst hn
    obtain ⟨u, v, r, rfl, rfl⟩ := rb_bin_inv hs
    exact lv_isub hx hb hd (kk H locs cells slots arr hI hL hlen)
  | imul =>
    obtain ⟨hd, hn, hm⟩ := rb_chk_dec hq rfl
    dsimp only at hn
    subst hn
    obtain ⟨u, v, r, rfl, rfl⟩ := rb_bin_inv hs
    exact lv_imul hx hb hd (kk H locs cells slots arr hI hL hlen)
  | iand =>
    obtain ⟨hd, hn, hm⟩ := rb_chk_dec hq rfl
    dsimp only at hn
    subst hn
    obtain ⟨u, v, r, rfl, rfl⟩ := rb_bin_inv hs
    exact lv_iand hx hb hd (kk H locs cells slots arr hI hL hlen)
  | ior =>
    obtain ⟨hd, hn, hm⟩ := rb_chk_dec hq rfl
    dsimp only at hn
    subst hn
    obtain ⟨u, v, r, rfl, rfl⟩ := rb_bin_inv hs
    exact lv_ior hx hb hd (kk H locs cells slots arr hI hL hlen)
  | ishl =>
    obtain ⟨hd, hn, hm⟩ := rb_chk_dec hq rfl
    dsimp only at hn
    subst hn
    obtain ⟨u, v, r, rfl, rfl⟩ := rb_bin_inv hs
    exact lv_ishl hx hb hd (kk H locs cells slots arr hI hL hlen)
  | ishr =>
    obtain ⟨hd, hn, hm⟩ := rb_chk_dec hq rfl
    dsimp only at hn
    subst hn
    obtain ⟨u, v, r, rfl, rfl⟩ := rb_bin_inv hs
    exact lv_ishr hx hb hd (kk H locs cells slots arr hI hL hlen)
  | idiv =>
    obtain ⟨hd, hn, hm⟩ := rb_chk_dec hq rfl
    dsimp only at hn
    subst hn
    obtain ⟨u, v, r, rfl, hne, rfl⟩ := rb_div_inv hs
    exact lv_idiv hx hb hd hne (kk H locs cells slots arr hI hL hlen)
  | irem =>
    obtain ⟨hd, hn, hm⟩ := rb_chk_dec hq rfl
    dsimp only at hn
    subst hn
    obtain ⟨u, v, r, rfl, hne, rfl⟩ := rb_div_inv hs
    exact lv_irem hx hb hd hne (kk H locs cells slots arr hI hL hlen)
  | dup =>
    obtain ⟨hd, hn, hm⟩ := rb_chk_dec hq rfl
    dsimp only at hn
    subst hn
    simp only [rb_step] at hs
    split at hs
    · rename_i v r
      split at hs
      · rename_i ho
        obtain rfl := rb_go_inv hs
        exact lv_dup hx hb hd (rb_cat1 ho) (kk H locs cells slots arr hI hL hlen)
      · cases hs
    · cases hs
  | pop =>
    obtain ⟨hd, hn, hm⟩ := rb_chk_dec hq rfl
    dsimp only at hn
    subst hn
    simp only [rb_step] at hs
    split at hs
    · rename_i v r
      split at hs
      · rename_i ho
        obtain rfl := rb_go_inv hs
        exact lv_pop hx hb hd (rb_cat1 ho) (kk H locs cells slots arr hI hL hlen)
      · cases hs
    · cases hs
  | dup_x1 =>
    obtain ⟨hd, hn, hm⟩ := rb_chk_dec hq rfl
    dsimp only at hn
    subst hn
    simp only [rb_step] at hs
    split at hs
    · rename_i v w r
      split at hs
      · rename_i ho
        rw [Bool.and_eq_true] at ho
        obtain rfl := rb_go_inv hs
        exact lv_dup_x1 hx hb hd (rb_cat1 ho.1) (rb_cat1 ho.2) (kk H locs cells slots arr hI hL hlen)
      · cases hs
    · cases hs
  | dup_x2 =>
    obtain ⟨hd, hn, hm⟩ := rb_chk_dec hq rfl
    dsimp only at hn
    subst hn
    simp only [rb_step] at hs
    split at hs
    · rename_i v w u r
      split at hs
      · rename_i ho
        rw [Bool.and_eq_true, Bool.and_eq_true] at ho
        obtain rfl := rb_go_inv hs
        exact lv_dup_x2 hx hb hd (rb_cat1 ho.1.1) (rb_cat1 ho.1.2) (rb_cat1 ho.2) (kk H locs cells slots arr hI hL hlen)
      · cases hs
    · cases hs
  | dup2 =>
    obtain ⟨hd, hn, hm⟩ := rb_chk_dec hq rfl
    dsimp only at hn
    subst hn
    simp only [rb_step] at hs
    split at hs
    · rename_i v w r
      split at hs
      · rename_i ho
        rw [Bool.and_eq_true] at ho
        obtain rfl := rb_go_inv hs
        exact lv_dup2_11 hx hb hd (rb_cat1 ho.1) (rb_cat1 ho.2) (kk H locs cells slots arr hI hL hlen)
      · cases hs
    · cases hs
  | goto o =>
    obtain ⟨hd, hn, hm⟩ := rb_chk_dec hq rfl
    obtain rfl := rb_go_inv hs
    exact lv_goto hx hb hd (of_decide_eq_true hm) (kk H locs cells slots arr hI hL hlen)
  | if_icmp cd o =>
    obtain ⟨hd, hn, hm⟩ := rb_chk_dec hq rfl
    dsimp only at hn
    subst hn
    simp only [rb_step] at hs
    split at hs
    · rename_i v u r
      refine rb_icmpW hx hb hd (of_decide_eq_true hm) (fun hc => ?_) (fun hc => ?_)
      · rw [hc] at hs
        obtain rfl := rb_go_inv hs
        exact kk H locs cells slots arr hI hL hlen
      · rw [hc] at hs
        obtain rfl := rb_go_inv hs
        exact kk H locs cells slots arr hI hL hlen
    · cases hs
  | ifCond cd o =>
    obtain ⟨hd, hn, hm⟩ := rb_chk_dec hq rfl
    dsimp only at hn
    subst hn
    simp only [rb_step] at hs
    split at hs
    · rename_i u r
      refine rb_ifW hx hb hd (of_decide_eq_true hm) (fun hc => ?_) (fun hc => ?_)
      · rw [hc] at hs
        obtain rfl := rb_go_inv hs
        exact kk H locs cells slots arr hI hL hlen
      · rw [hc] at hs
        obtain rfl := rb_go_inv hs
        exact kk H locs cells slots arr hI hL hlen
    · cases hs
  | ifnull o =>
    obtain ⟨hd, hn, hm⟩ := rb_chk_dec hq rfl
    dsimp only at hn
    subst hn
    simp only [rb_step] at hs
    split at hs
    · obtain rfl := rb_go_inv hs
      exact lv_ifnullN hx hb hd (of_decide_eq_true hm) (kk H locs cells slots arr hI hL hlen)
    · obtain rfl := rb_go_inv hs
      exact lv_ifnull hx hb hd (kk H locs cells slots arr hI hL hlen)
    · cases hs
  | ifnonnull o =>
    obtain ⟨hd, hn, hm⟩ := rb_chk_dec hq rfl
    dsimp only at hn
    subst hn
    simp only [rb_step] at hs
    split at hs
    · obtain rfl := rb_go_inv hs
      exact lv_ifnonnullN hx hb hd (kk H locs cells slots arr hI hL hlen)
    · obtain rfl := rb_go_inv hs
      exact lv_ifnonnull hx hb hd (of_decide_eq_true hm) (kk H locs cells slots arr hI hL hlen)
    · cases hs
  | tableswitch d lo hi os =>
    obtain ⟨len, hd, hm⟩ := rb_chk_sw hq
    simp only [rb_step] at hs
    split at hs
    · obtain rfl := rb_go_inv hs
      exact rb_tabW (k := k) hx hb hd hm (kk H locs cells slots arr hI hL hlen)
    · cases hs
  | lookupswitch d ps =>
    obtain ⟨len, hd, hm⟩ := rb_chk_sw hq
    simp only [rb_step] at hs
    split at hs
    · obtain rfl := rb_go_inv hs
      exact rb_lkW (k := k) hx hb hd hm (kk H locs cells slots arr hI hL hlen)
    · cases hs
  | getfield idx =>
    obtain ⟨hd, hn, hm⟩ := rb_chk_dec hq rfl
    dsimp only at hn
    subst hn
    obtain ⟨ad, r, fs, v, rfl, he, hv, rfl⟩ := rb_get_inv hs
    exact rb_getW hx hb hts hown hK hI hm hd he hv (kk H locs cells slots arr hI hL hlen)
  | putfield idx =>
    obtain ⟨hd, hn, hm⟩ := rb_chk_dec hq rfl
    dsimp only at hn
    subst hn
    obtain ⟨ad, r, fs, v, rfl, hfit, he, hj, rfl⟩ := rb_put_inv hs
    have hm := (Bool.and_eq_true _ _).mp hm
    exact rb_putW hx hb hts hown hnm hK hI hm.1 hm.2 hd he hj hfit (fun H1 locs1 hI1 => kk H1 locs1 cells slots arr hI1 hL hlen)
  | iaload =>
    obtain ⟨hd, hn, hm⟩ := rb_chk_dec hq rfl
    dsimp only at hn
    subst hn
    obtain ⟨i, ad, r, n, g, rfl, he, hin, rfl⟩ := rb_ald_inv hs
    exact va_iald hx hb hK hI.1 ad 0 (rb_atI he (rb_inA hI.2.2.2.1 he)) (rb_tys_at cA (by decide)) hin hd (kk H locs cells slots arr hI hL hlen)
  | baload =>
    obtain ⟨hd, hn, hm⟩ := rb_chk_dec hq rfl
    dsimp only at hn
    subst hn
    obtain ⟨i, ad, r, n, g, rfl, he, hin, rfl⟩ := rb_ald_inv hs
    exact va_zald hx hb hK hI.1 ad 1 (rb_atI he (rb_inA hI.2.2.2.1 he)) (rb_tys_at cA (by decide)) hin hd (kk H locs cells slots arr hI hL hlen)
  | iastore =>
    obtain ⟨hd, hn, hm⟩ := rb_chk_dec hq rfl
    dsimp only at hn
    subst hn
    obtain ⟨v, i, ad, r, n, g, rfl, hfit, he, hin, rfl⟩ := rb_ast_inv (t := 0) (ty := .int) (nx := pc + 1) (ls := ls) (st := st) (h := h) (x := x) hs
    have ha := rb_inA hI.2.2.2.1 he
    exact va_iast hx hb hK hI.1 hI.2.1 hI.2.2.1 ad 0 (rb_atI he ha) (rb_tys_at cA (by decide)) hin hd (fun H1 locs1 hP1 hD1 hS1 => kk H1 locs1 cells slots arr (hI.set ha hP1 hD1 hS1) hL hlen)
  | bastore =>
    obtain ⟨hd, hn, hm⟩ := rb_chk_dec hq rfl
    dsimp only at hn
    subst hn
    obtain ⟨v, i, ad, r, n, g, rfl, hfit, he, hin, rfl⟩ := rb_ast_inv hs
    have ha := rb_inA hI.2.2.2.1 he
    have hv : vp_nar .boolean v = v := by
      have := (rb_fit_spec b hfit).1
      have h9 : narrow .boolean (.int v) = .int v := this
      unfold vp_nar
      rw [h9]
    refine va_zast hx hb hK hI.1 hI.2.1 hI.2.2.1 ad 1 (rb_atI he ha) (rb_tys_at cA (by decide)) hin hd (fun H1 locs1 hP1 hD1 hS1 => ?_)
    rw [hv] at hP1 hD1
    exact kk H1 locs1 cells slots arr (hI.set ha hP1 hD1 hS1) hL hlen
  | aaload =>
    obtain ⟨hd, hn, hm⟩ := rb_chk_dec hq rfl
    dsimp only at hn
    subst hn
    obtain ⟨i, ad, r, t, n, g, rfl, he, h2t, ht7, hin, rfl⟩ := rb_rald_inv hs
    refine rb_aldW hx hb hK hI.1 (rb_atR he (rb_inA hI.2.2.2.1 he)) (rb_tys_at cA ht7) (rb_aty_ref h2t ht7) hin hd ?_
    have := kk H locs cells slots arr hI hL hlen
    rw [List.map_cons, rb_rf] at this
    exact this
  | aastore =>
    obtain ⟨hd, hn, hm⟩ := rb_chk_dec hq rfl
    dsimp only at hn
    subst hn
    obtain ⟨v, i, ad, r, t, n, g, ci, vs, rfl, he, hv, hel, hin, rfl⟩ := rb_rast_inv hs
    obtain ⟨q, hq1, ht7, hq2⟩ := rb_el_ok hel
    have ha := rb_inA hI.2.2.2.1 he
    have hva := rb_inO hI.2.2.2.1 hv (rb_clt hq1)
    refine va_astq (v := b + v) hx hb hK hI.1 hI.2.1 hI.2.2.1 ad t v ci (rb_atR he ha) (by rw [rb_tys_at cA ht7, hq2]) (rb_atO hv hva) hq1 hin hd (fun H1 locs1 hP1 hD1 hS1 => ?_)
    have e9 : (va_up (fun i => (g i).map (fun a => b + a)) i.toNatClampNeg (some (b + v)) : Nat → Option Nat) = fun j => ((va_up g i.toNatClampNeg (some v)) j).map (fun a => b + a) := by
      funext j
      unfold va_up
      split <;> rfl
    rw [e9] at hP1 hD1
    exact kk H1 locs1 cells slots arr (hI.set ha (x := .inl (t, n, .inr (.inr (.inr (.inr (va_up g i.toNatClampNeg (some v))))))) hP1 hD1 hS1) hL hlen
  | arraylength =>
    obtain ⟨hd, hn, hm⟩ := rb_chk_dec hq rfl
    dsimp only at hn
    subst hn
    obtain ⟨ad, r, t, n, g, rfl, he, ht7, rfl⟩ := rb_len_inv hs
    exact va_alen hx hb hK hI.1 ad t (rb_atI he (rb_inA hI.2.2.2.1 he)) (rb_tys_at cA ht7) rfl hd (kk H locs cells slots arr hI hL hlen)
  | new idx =>
    obtain ⟨hd, hn, hm⟩ := rb_chk_dec hq rfl
    dsimp only at hn
    subst hn
    simp only [rb_step] at hs
    split at hs
    · obtain ⟨hal1, hAb, -⟩ := hal rfl
      obtain rfl := rb_go_inv hs
      obtain ⟨qc, hqc, w1, w2, w3⟩ := rb_nok_spec hm
      obtain ⟨C, T, N⟩ := qc
      have hc := hI.2.2.2.2.1
      have hc2 := hI.2.2.2.2.2
      have hr1 : h.1 + 1 ≤ h0.1 + R.cells := hroom.1
      have hr2 : h.2.1 + (rb_df a).length ≤ h0.2.1 + R.slots := hroom.2
      have hN : (rb_df a).length = N := rb_df_len hqc
      subst hN
      refine va_new (D := D) (ci := a) (fs := rb_df a) (C := C) (T := T) (N := (rb_df a).length) hx hb hts (rb_lay_in hqc) (rb_tt a) (rb_tt_ok hqc) hown (hts _ w1) (hts _ w2) (hts _ w3) hK hI.1 hI.2.1 hI.2.2.1 hA hqc (rb_df_ok hqc) (by omega) (by omega) hd (fun q9 H1 hP1 hD1 hS1 => rb_Wsz (fun hz => ?_))
      obtain ⟨e9, hI1⟩ := rb_Inv.push (x := .inr (a, rb_df a)) (n := (rb_df a).length) (by show (Sum.inr (a, rb_df a) : va_E) = .inr (a, (rb_df a).map (rb_rv b)); rw [rb_df_rv]) hI hal1 hAb hz hP1 hD1 hS1
      subst e9
      exact kk H1 locs (cells + 1) (slots + (rb_df a).length) arr hI1 hL hlen
    · cases hs
  | newarray t =>
    obtain ⟨hd, hn, hm⟩ := rb_chk_dec hq rfl
    dsimp only at hn
    subst hn
    simp only [rb_step] at hs
    split at hs
    · obtain ⟨hal1, hAb, -⟩ := hal rfl
      obtain ⟨n, r, rfl, hn0, hn1, rfl⟩ := rb_nwa_inv hs
      have hc := hI.2.2.2.2.1
      have hc2 := hI.2.2.2.2.2
      have hr1 : h.1 + 1 ≤ h0.1 + R.cells := hroom.1
      have hr2 : h.2.1 + n.toNatClampNeg ≤ h0.2.1 + R.slots := hroom.2
      obtain ⟨ht7, hty, harr⟩ := rb_nwa_ok hm
      refine va_newa (D := D) (ty := rb_aty a) (a0 := (n.toNatClampNeg, .inl (fun _ => 0))) hx hb (hts _ harr) hty hK hI.1 hI.2.1 hI.2.2.1 hA (fun cX => rb_cell0 hm) hn0 rfl (rb_bytes hm hn1) (by omega) (by omega) hd (fun q9 cX H1 hK1 hP1 hD1 hS1 => rb_Wsz (fun hz => ?_))
      have hcX : cX = cA a := rb_sameA hK hK1 ht7
      subst hcX
      obtain ⟨e9, hI1⟩ := rb_Inv.push (x := .inl (a, n.toNatClampNeg, .inl (fun _ => 0))) (n := n.toNatClampNeg) rfl hI hal1 hAb hz hP1 hD1 hS1
      subst e9
      exact kk H1 locs (cells + 1) (slots + n.toNatClampNeg) arr hI1 hL hlen
    · cases hs
  | anewarray idx =>
    obtain ⟨hd, hn, hm⟩ := rb_chk_dec hq rfl
    dsimp only at hn
    subst hn
    simp only [rb_step] at hs
    split at hs
    · obtain ⟨hal1, hAb, hal2⟩ := hal rfl
      obtain ⟨n, r, rfl, hn0, hn1, rfl⟩ := rb_nwr_inv hs
      have hc := hI.2.2.2.2.1
      have hc2 := hI.2.2.2.2.2
      have hr1 : h.1 + 1 ≤ h0.1 + R.cells := hroom.1
      have hr2 : h.2.1 + n.toNatClampNeg ≤ h0.2.1 + R.slots := hroom.2
      obtain ⟨C, w1, w2, w3, w4⟩ := rb_aok_spec hm
      refine va_newq (D := D) (C := C) (N' := n.toNatClampNeg) hx hb hown (hts _ w1) (hal2.1 C w4) hK hI.1 hI.2.1 hI.2.2.1 hA hn0 rfl (by omega) (by omega) (by omega) hd (fun q9 cX H1 hK1 hP1 hD1 hS1 => rb_Wsz (fun hz => ?_))
      have hcX : cX = cA a := rb_sameA hK (by rw [w2]; exact hK1) w3
      subst hcX
      obtain ⟨e9, hI1⟩ := rb_Inv.push (x := .inl (a, n.toNatClampNeg, .inr (.inr (.inr (.inr (fun _ => none)))))) (n := n.toNatClampNeg) rfl hI hal1 hAb hz hP1 hD1 hS1
      subst e9
      exact kk H1 locs (cells + 1) (slots + n.toNatClampNeg) arr hI1 hL hlen
    · cases hs
  | multianewarray idx n =>
    obtain ⟨hd, hn, hm⟩ := rb_chk_dec hq rfl
    dsimp only at hn
    subst hn
    simp only [rb_step] at hs
    split at hs
    · obtain ⟨hal1, hAb, hal2⟩ := hal rfl
      obtain ⟨n1, n2, r, rfl, g1, g2, g3, g4, rfl⟩ := rb_nw2_inv hs
      simp only [rb_more, Bool.and_eq_true] at hm
      have e9 := Nat.eq_of_beq_eq_true hm.1
      subst e9
      have hc := hI.2.2.2.2.1
      have hc2 := hI.2.2.2.2.2
      have hr1 : h.1 + 1 + n1.toNatClampNeg ≤ h0.1 + R.cells := hroom.1
      have hr2 : h.2.1 + n1.toNatClampNeg + n1.toNatClampNeg * n2.toNatClampNeg ≤ h0.2.1 + R.slots := hroom.2
      refine rb_Wsz (fun hz => ?_)
      have hsz := rb_size hI hal1 hz
      refine rb_W2 hx hb hown (hts _ (rb_hasO_mem hm.2)) hal2.2.1 (hts _ rb_ai_in) g1 g2 g3 g4 hd (by omega) (by omega) (fun H1 cB cI hB hC z1 o1 a1 r1 => ?_)
      have k6 : s.vm.findClass "[[I" = some (cA 6) := (hK.2 6 _ (rb_tys_at cA (by decide))).2
      have k0 : s.vm.findClass "[I" = some (cA 0) := (hK.2 0 _ (rb_tys_at cA (by decide))).2
      cases hB.symm.trans k6
      cases hC.symm.trans k0
      have hI1 := hI.push2 hA hsz z1 o1 a1 r1
      rw [hsz]
      exact kk H1 locs _ _ arr hI1 hL hlen
    · cases hs
  | invokespecial idx =>
    obtain ⟨hd, hn, hm⟩ := rb_chk_dec hq rfl
    dsimp only at hn
    subst hn
    simp only [rb_step] at hs
    split at hs
    · rename_i h999
      split at hs
      · rename_i ad r
        split at hs
        · rename_i hr8
          split at hs
          · rename_i hra
            obtain rfl := rb_go_inv hs
            have hrl : r.length ≤ 8 := Nat.le_of_ble_eq_true hr8
            have hsum := rb_catsum (b := b) hra
            have hlk := rb_oi_spec (Nat.eq_of_beq_eq_true h999) hm
            refine W.objInit (g := F0 m pc arr (.ref (b + ad) :: r.map (rb_rv b))) hx hb hown (hts _ hlk) (hts _ rb_oi_inst) (hts _ rb_oi_code) rfl (by rw [hml]; exact hL.1.trans hlen) rfl hd hR.1 ?_ (kk H locs cells slots arr hI hL hlen)
            rw [hsum]
            show 2 * (F0 m pc arr (.ref (b + ad) :: r.map (rb_rv b))).monitorRoom + r.length + 12 ≤ R.locals
            have := lv_room (m := m) (pc := pc) (ls := arr) (rest := .ref (b + ad) :: r.map (rb_rv b)) (st := r.map (rb_rv b)) (by rw [hsum]; exact hrl)
            rw [hsum] at this
            omega
          · cases hs
        · cases hs
      · cases hs
    · split at hs
      · cases hs
      · split at hs
        · unfold rb_args at hs
          split at hs
          · split at hs
            · split at hs
              · cases hs
              · cases hs
            · cases hs
          · cases hs
        · cases hs
  | invokestatic idx =>
    simp only [rb_step] at hs
    unfold rb_args at hs
    split at hs
    · split at hs
      · split at hs
        · cases hs
        · cases hs
      · cases hs
    · cases hs
  | invokevirtual idx =>
    simp only [rb_step] at hs
    unfold rb_argV at hs
    split at hs
    · split at hs
      · split at hs
        · unfold rb_args at hs
          split at hs
          · split at hs
            · split at hs
              · cases hs
              · cases hs
            · cases hs
          · cases hs
        · cases hs
      · cases hs
    · cases hs
  | ireturn =>
    simp only [rb_step] at hs
    split at hs
    · split at hs
      · split at hs
        · cases hs
        · cases hs
      · cases hs
    · cases hs
  | areturn =>
    simp only [rb_step] at hs
    split at hs
    · split at hs
      · cases hs
      · cases hs
    · split at hs
      · cases hs
      · cases hs
    · cases hs
  | return_ =>
    simp only [rb_step] at hs
    split at hs
    · cases hs
    · cases hs
  | _ => cases hs
end RBY
end
section
/-! sizes only grow; places behind the size are blank -/
def rb_le (h h' : rb_H) : Prop := h.1 ≤ h'.1 ∧ h.2.1 ≤ h'.2.1 ∧ ((∀ i, h.1 ≤ i → h.2.2 i = rb_blank) → ∀ i, h'.1 ≤ i → h'.2.2 i = rb_blank)
theorem rb_le.rf (h : rb_H) : rb_le h h := ⟨Nat.le_refl _, Nat.le_refl _, fun x => x⟩
theorem rb_le.tr {h h1 h2 : rb_H} (a : rb_le h h1) (b : rb_le h1 h2) : rb_le h h2 := ⟨Nat.le_trans a.1 b.1, Nat.le_trans a.2.1 b.2.1, fun x => b.2.2 (a.2.2 x)⟩
theorem rb_le.st {h : rb_H} {a : Nat} {x y : va_E} (he : h.2.2 a = y) (hy : ¬ y = rb_blank) : rb_le h (h.1, h.2.1, va_up h.2.2 a x) := by
  refine ⟨Nat.le_refl _, Nat.le_refl _, fun hb i hi => ?_⟩
  have hi : h.1 ≤ i := hi
  show va_up h.2.2 a x i = rb_blank
  unfold va_up
  by_cases hia : i = a
  · subst hia
    exact absurd (he.symm.trans (hb i hi)) hy
  · rw [if_neg hia]
    exact hb i hi
theorem rb_le.nw {h : rb_H} {n : Nat} {x : va_E} : rb_le h (h.1 + 1, h.2.1 + n, va_up h.2.2 h.1 x) := by
  refine ⟨Nat.le_succ _, Nat.le_add_right _ _, fun hb i hi => ?_⟩
  have hi : h.1 + 1 ≤ i := hi
  show va_up h.2.2 h.1 x i = rb_blank
  unfold va_up
  rw [if_neg (by omega)]
  exact hb i (by omega)
theorem rb_args_inl {ms n : Nat} {ls st : List Value} {h : rb_H} {x : Nat × List Value × List Value × rb_H} (hs : rb_args ms n ls st h = some (.inl x)) : False := by
  unfold rb_args at hs
  split at hs
  · split at hs
    · split at hs
      · cases hs
      · cases hs
    · cases hs
  · cases hs
theorem rb_argV_inl {ci ms n : Nat} {ls st : List Value} {h : rb_H} {x : Nat × List Value × List Value × rb_H} (hs : rb_argV ci ms n ls st h = some (.inl x)) : False := by
  unfold rb_argV at hs
  split at hs
  · split at hs
    · split at hs
      · exact rb_args_inl hs
      · cases hs
    · cases hs
  · cases hs
theorem rb_neI {t : Nat} {a : vp_A} : ¬ (Sum.inl (t, a) : va_E) = rb_blank := fun h => by unfold rb_blank at h; cases h
set_option maxHeartbeats 4000000 in
theorem rb_step_le {k nx a b : Nat} {al : Bool} {i : Jvm.ClassFile.Instr} {kc : Int32} {ls st : List Value} {h : rb_H} {x : Nat × List Value × List Value × rb_H} (hca : ∀ idx, i = .putfield idx → a < 1000) (hs : rb_step k al i nx a b kc ls st h = some (.inl x)) : rb_le h x.2.2.2 := by
  cases i with
  | iconst n => obtain rfl := rb_go_inv hs; exact rb_le.rf h
  | bipush n => obtain rfl := rb_go_inv hs; exact rb_le.rf h
  | sipush n => obtain rfl := rb_go_inv hs; exact rb_le.rf h
  | aconst_null => obtain rfl := rb_go_inv hs; exact rb_le.rf h
  | goto n => obtain rfl := rb_go_inv hs; exact rb_le.rf h
  | iload j => obtain ⟨_, -, rfl⟩ := rb_ldi_inv hs; exact rb_le.rf h
  | iload_n j => obtain ⟨_, -, rfl⟩ := rb_ldi_inv hs; exact rb_le.rf h
  | aload j => obtain ⟨_, -, -, rfl⟩ := rb_lda_inv hs; exact rb_le.rf h
  | aload_n j => obtain ⟨_, -, -, rfl⟩ := rb_lda_inv hs; exact rb_le.rf h
  | istore j => obtain ⟨_, _, -, -, rfl⟩ := rb_sti_inv hs; exact rb_le.rf h
  | istore_n j => obtain ⟨_, _, -, -, rfl⟩ := rb_sti_inv hs; exact rb_le.rf h
  | astore j => obtain ⟨_, _, -, -, -, rfl⟩ := rb_sta_inv hs; exact rb_le.rf h
  | astore_n j => obtain ⟨_, _, -, -, -, rfl⟩ := rb_sta_inv hs; exact rb_le.rf h
  | iinc j n => obtain ⟨_, -, rfl⟩ := rb_inc_inv hs; exact rb_le.rf h
  | iadd => obtain ⟨_, _, _, -, rfl⟩ := rb_bin_inv hs; exact rb_le.rf h
  | isub => obtain ⟨_, _, _, -, rfl⟩ := rb_bin_inv hs; exact rb_le.rf h
  | imul => obtain ⟨_, _, _, -, rfl⟩ := rb_bin_inv hs; exact rb_le.rf h
  | iand => obtain ⟨_, _, _, -, rfl⟩ := rb_bin_inv hs; exact rb_le.rf h
  | ior => obtain ⟨_, _, _, -, rfl⟩ := rb_bin_inv hs; exact rb_le.rf h
  | ishl => obtain ⟨_, _, _, -, rfl⟩ := rb_bin_inv hs; exact rb_le.rf h
  | ishr => obtain ⟨_, _, _, -, rfl⟩ := rb_bin_inv hs; exact rb_le.rf h
  | idiv => obtain ⟨_, _, _, -, -, rfl⟩ := rb_div_inv hs; exact rb_le.rf h
  | irem => obtain ⟨_, _, _, -, -, rfl⟩ := rb_div_inv hs; exact rb_le.rf h
  | getfield idx => obtain ⟨_, _, _, _, -, -, -, rfl⟩ := rb_get_inv hs; exact rb_le.rf h
  | putfield idx =>
    obtain ⟨_, _, _, _, -, -, he, -, rfl⟩ := rb_put_inv hs
    refine rb_le.st he (fun h9 => ?_)
    unfold rb_blank at h9
    have h8 : a = 1000 := congrArg Prod.fst (Sum.inr.inj h9)
    have h7 := hca _ rfl
    omega
  | iaload => obtain ⟨_, _, _, _, _, -, -, -, rfl⟩ := rb_ald_inv hs; exact rb_le.rf h
  | baload => obtain ⟨_, _, _, _, _, -, -, -, rfl⟩ := rb_ald_inv hs; exact rb_le.rf h
  | iastore => obtain ⟨_, _, _, _, _, _, -, -, he, -, rfl⟩ := rb_ast_inv (t := 0) (ty := .int) (nx := nx) (ls := ls) (st := st) (h := h) (x := x) hs; exact rb_le.st he rb_neI
  | bastore => obtain ⟨_, _, _, _, _, _, -, -, he, -, rfl⟩ := rb_ast_inv hs; exact rb_le.st he rb_neI
  | aaload => obtain ⟨_, _, _, _, _, _, -, -, -, -, -, rfl⟩ := rb_rald_inv hs; exact rb_le.rf h
  | aastore => obtain ⟨_, _, _, _, _, _, _, _, _, -, he, -, -, -, rfl⟩ := rb_rast_inv hs; exact rb_le.st he rb_neI
  | arraylength => obtain ⟨_, _, _, _, _, -, -, -, rfl⟩ := rb_len_inv hs; exact rb_le.rf h
  | new idx =>
    simp only [rb_step] at hs
    split at hs
    · obtain rfl := rb_go_inv hs; exact rb_le.nw
    · cases hs
  | newarray t =>
    simp only [rb_step] at hs
    split at hs
    · obtain ⟨_, _, -, -, -, rfl⟩ := rb_nwa_inv hs; exact rb_le.nw
    · cases hs
  | anewarray idx =>
    simp only [rb_step] at hs
    split at hs
    · obtain ⟨_, _, -, -, -, rfl⟩ := rb_nwr_inv hs; exact rb_le.nw
    · cases hs
  | multianewarray idx n =>
    simp only [rb_step] at hs
    split at hs
    · obtain ⟨n1, n2, _, -, -, -, -, -, rfl⟩ := rb_nw2_inv hs
      refine ⟨by show h.1 ≤ h.1 + 1 + n1.toNatClampNeg; omega, by show h.2.1 ≤ h.2.1 + n1.toNatClampNeg + n1.toNatClampNeg * n2.toNatClampNeg; omega, fun hb j hj => ?_⟩
      have hj : h.1 + 1 + n1.toNatClampNeg ≤ j := hj
      show (if j < h.1 then _ else if j = h.1 then _ else if j < h.1 + 1 + n1.toNatClampNeg then _ else rb_blank) = rb_blank
      rw [if_neg (by omega), if_neg (by omega), if_neg (by omega)]
    · cases hs
  | if_icmp c o =>
    simp only [rb_step] at hs
    split at hs
    · rcases rb_br_inv hs with ⟨-, rfl⟩ | ⟨-, rfl⟩ <;> exact rb_le.rf h
    · cases hs
  | ifCond c o =>
    simp only [rb_step] at hs
    split at hs
    · rcases rb_br_inv hs with ⟨-, rfl⟩ | ⟨-, rfl⟩ <;> exact rb_le.rf h
    · cases hs
  | ifnull o =>
    simp only [rb_step] at hs
    split at hs
    · obtain rfl := rb_go_inv hs; exact rb_le.rf h
    · obtain rfl := rb_go_inv hs; exact rb_le.rf h
    · cases hs
  | ifnonnull o =>
    simp only [rb_step] at hs
    split at hs
    · obtain rfl := rb_go_inv hs; exact rb_le.rf h
    · obtain rfl := rb_go_inv hs; exact rb_le.rf h
    · cases hs
  | tableswitch d lo hi os =>
    simp only [rb_step] at hs
    split at hs
    · obtain rfl := rb_go_inv hs; exact rb_le.rf h
    · cases hs
  | lookupswitch d ps =>
    simp only [rb_step] at hs
    split at hs
    · obtain rfl := rb_go_inv hs; exact rb_le.rf h
    · cases hs
  | dup =>
    simp only [rb_step] at hs
    split at hs
    · split at hs
      · obtain rfl := rb_go_inv hs; exact rb_le.rf h
      · cases hs
    · cases hs
  | pop =>
    simp only [rb_step] at hs
    split at hs
    · split at hs
      · obtain rfl := rb_go_inv hs; exact rb_le.rf h
      · cases hs
    · cases hs
  | dup_x1 =>
    simp only [rb_step] at hs
    split at hs
    · split at hs
      · obtain rfl := rb_go_inv hs; exact rb_le.rf h
      · cases hs
    · cases hs
  | dup_x2 =>
    simp only [rb_step] at hs
    split at hs
    · split at hs
      · obtain rfl := rb_go_inv hs; exact rb_le.rf h
      · cases hs
    · cases hs
  | dup2 =>
    simp only [rb_step] at hs
    split at hs
    · split at hs
      · obtain rfl := rb_go_inv hs; exact rb_le.rf h
      · cases hs
    · cases hs
  | invokestatic idx => exact (rb_args_inl (ms := a) (n := b) (ls := ls) (st := st) (h := h) (x := x) hs).elim
  | invokevirtual idx => exact (rb_argV_inl hs).elim
  | invokespecial idx =>
    simp only [rb_step] at hs
    split at hs
    · split at hs
      · split at hs
        · split at hs
          · obtain rfl := rb_go_inv hs; exact rb_le.rf h
          · cases hs
        · cases hs
      · cases hs
    · split at hs
      · cases hs
      · split at hs
        · exact (rb_args_inl hs).elim
        · cases hs
  | ireturn =>
    simp only [rb_step] at hs
    split at hs
    · split at hs
      · split at hs
        · cases hs
        · cases hs
      · cases hs
    · cases hs
  | areturn =>
    simp only [rb_step] at hs
    split at hs
    · split at hs
      · cases hs
      · cases hs
    · split at hs
      · cases hs
      · cases hs
    · cases hs
  | return_ =>
    simp only [rb_step] at hs
    split at hs
    · cases hs
    · cases hs
  | _ => cases hs
end
section
theorem rb_chk_put {k pc : Nat} {q : rb_I} (h : rb_chk k pc q = true) : ∀ idx, q.1 = .putfield idx → q.2.2.1 < 1000 := by
  intro idx hi
  obtain ⟨i, nx, a, b, kc⟩ := q
  dsimp only at hi
  subst hi
  obtain ⟨-, -, hm⟩ := rb_chk_dec h rfl
  have hm := (Bool.and_eq_true _ _).mp hm
  obtain ⟨q, hq, -⟩ := rb_fok_spec hm.1
  exact rb_clt hq
theorem rb_ex_le {C : Nat → List Value → rb_H → Option Value → rb_H → Prop} {al : Bool} {k : Nat} (hC : ∀ k as h v h1, C k as h v h1 → rb_le h h1) : ∀ (n pc : Nat) (ls st : List Value) (h : rb_H) (r : Option Value) (h' : rb_H), rb_ex C al k n pc ls st h r h' → rb_le h h'
  | 0, _, _, _, _, _, _, hx => hx.elim
  | n + 1, pc, ls, st, h, r, h', hx => by
    unfold rb_ex at hx
    split at hx
    · exact hx.elim
    · rename_i q hq
      split at hx
      · exact hx.elim
      · rename_i x hs
        exact (rb_step_le (rb_chk_put (rb_ins_ok hq)) hs).tr (rb_ex_le hC n _ _ _ _ _ _ hx)
      · obtain ⟨-, v, h1, hc, hx⟩ := hx
        exact (hC _ _ _ _ _ hc).tr (rb_ex_le hC n _ _ _ _ _ _ hx)
      · obtain ⟨-, -, rfl⟩ := hx
        exact rb_le.rf _
theorem rb_rel_le {al : Bool} : ∀ (d k : Nat) (as : List Value) (h : rb_H) (r : Option Value) (h' : rb_H), rb_rel al d k as h r h' → rb_le h h'
  | 0, _, _, _, _, _, hx => hx.elim
  | d + 1, k, as, h, r, h', hx => by
    obtain ⟨-, -, n, hx⟩ := hx
    exact rb_ex_le (fun k as h v h1 hc => rb_rel_le d k as h v h1 hc) n _ _ _ _ _ _ hx
def rb_rm (d mc ms : Nat) : Room := { frames := d, cells := mc, slots := ms, locals := 40 * d }
def rb_wsk (k : Nat) : List Cond := .code (rb_y k) (rb_b k) (rb_ml k) (rb_rt k) :: rb_ws
def rb_Pc (al : Bool) (D : va_G) (cA : Nat → ClassId) (b : Nat) (h : rb_H) (as : List Value) (sz : Nat) : Array Value → State → Prop := va_Pc (as.map (rb_rv b)) (fun U => U.heap.size = sz ∧ (al = true → sz = b + h.1 ∧ rb_E U) ∧ va_P D rb_cl (rb_w b cA h) U.heap ∧ va_K D rb_cl (rb_tys cA) U ∧ va_D (fun _ => True) (rb_w b cA h))
def rb_Qc (D : va_G) (cA : Nat → ClassId) (b : Nat) (h : rb_H) (sz : Nat) (r : Option Value) (h' : rb_H) : Array Value → State → Outcome → State → Prop := fun _ st oc t => (oc = .returned (r.map (rb_rv b)) ∧ va_P D rb_cl (rb_w b cA h') t.heap ∧ va_D (va_A (rb_w b cA h) sz) (rb_w b cA h')) ∧ va_F (va_A (rb_w b cA h) sz) st t
theorem rb_good_in {k a : Nat} (ha : a < rb_nm) : GoodIn (rb_wsk k) (rb_wsk a) := by
  intro w hw
  rcases List.mem_cons.mp hw with h | h
  · subst h
    exact ⟨List.mem_cons_of_mem _ (rb_code_in ha), Or.inl rfl⟩
  · exact ⟨List.mem_cons_of_mem _ h, rb_ws_good w h⟩
theorem rb_cok_spec {a np : Nat} (h : rb_cok a np = true) : a < rb_nm ∧ Cond.initialized (rb_y a).cls ∈ rb_ws ∧ ((rb_y a).cls ≠ "java/lang/invoke/MethodHandle" ∧ (rb_y a).cls ≠ "java/lang/invoke/VarHandle" ∧ (parseMethodDescriptor (rb_y a).desc).map (fun d => d.parameters.length) = some np) ∧ rb_ml a < 21 := by
  unfold rb_cok at h
  simp only [Bool.and_eq_true] at h
  obtain ⟨⟨⟨⟨⟨h1, h3⟩, h4⟩, h5⟩, h6⟩, h7⟩ := h
  exact ⟨rb_blt h1, rb_hasO_mem h3, ⟨of_decide_eq_true h4, of_decide_eq_true h5, of_decide_eq_true h6⟩, rb_blt h7⟩
section RBM
variable {p : Program} {l : Launch} {e : Env} {R : Room} {s : State} {m : MethodId} {args : Array Value} {below : List Frame} {meth : Method} {c : Code} {H : Heap} {locs : List Loc} {cells slots : Nat} {Q : State → Prop}
variable {D : va_G} {cA : Nat → ClassId} {b : Nat} {A : Nat → Prop} {h0 h : rb_H} {k pc : Nat} {ls st : List Value} {arr : Array Slot} {al : Bool}
/-- behind a call -/
theorem rb_after {rest : List Value} {a : Array Value} {sz mc ms : Nat} {r : Option Value} {h1 : rb_H} {st0 : List Value} {free : Addr → Prop} (hr : va_Run p l e R s m args below meth c H locs cells slots mc ms (F0 m pc arr st0) rest (rb_Qc D cA b h sz r h1 a) free) (hS : va_S A s.heap H locs) (hA : ∀ q, va_A (rb_w b cA h) sz q → A q) (hf : ∀ q, free q → A q)
    (kk : ∀ (H1 : Heap) (locs1 : List Loc), va_P D rb_cl (rb_w b cA h1) H1 → va_D A (rb_w b cA h1) → va_S A s.heap H1 locs1 → W p l e R s m args below meth c H1 locs1 (cells + mc) (slots + ms) Q (F0 m (pc + 3) arr ((r.map (rb_rv b)).toList ++ rest))) : W p l e R s m args below meth c H locs cells slots Q (F0 m pc arr st0) := by
  intro T hT X
  obtain ⟨v, st₀, t, T', L, g0, X', hL, e1, e2, ⟨⟨hv, hP, hD⟩, hz, hk⟩, go⟩ := hr T hT X
  cases hv
  rw [g0] at hz hk
  obtain ⟨t2, a1, b1⟩ := kk T'.heap (locs ++ L) (by rw [e1]; exact hP) (hD.weaken (fun i q _ h9 => hA _ h9))
    ⟨Nat.le_trans hS.1 (by rw [e1]; exact hz), fun q h8 h9 => by rw [e1, hk q (Nat.lt_of_lt_of_le h8 hS.1) (fun z => h9 (hA q z))]; exact hS.2.1 q h8 h9, fun q hq => by
      rcases List.mem_append.mp hq with h9 | h9
      · exact hS.2.2 q h9
      · exact hf _ (hL q h9)⟩ T' rfl X'
  exact ⟨t2, go t2 a1, b1⟩
end RBM
theorem rb_E.moved {s U : State} (hW : s.WarmedH U.vm) (h : rb_E s) : rb_E U := by
  refine ⟨fun C hC => va_AO.moved hW.alike (h.1 C hC), ?_, ?_⟩
  · exact over_moved hW.alike h.2.1
  · intro w hw
    have h9 := h.2.2 w hw
    have hc : w = .methodLinkNest "RingBridges$Node" 17 ⟨"RingBridges$Frame", "<init>", "()V"⟩ "RingBridges" ∨ w = .methodLinkNest "RingBridges$Signal" 11 ⟨"RingBridges$Frame", "<init>", "()V"⟩ "RingBridges" := by simpa [rb_wN] using hw
    rcases hc with rfl | rfl
    · exact va_Nw.warmM hW h9
    · exact va_Nw.warmM hW h9
theorem rb_E.call {U : State} {g : JFrame} {mk : MethodId} {a : Array Value} (h : rb_E U) : rb_E (U.calling g mk a) := by
  refine ⟨fun C hC => va_AO.moved (u := U) (U := U.calling g mk a) (Vm.Alike.refl U.vm) (h.1 C hC), over_moved (Vm.Alike.refl U.vm) h.2.1, ?_⟩
  intro w hw
  have h9 := h.2.2 w hw
  have hc : w = .methodLinkNest "RingBridges$Node" 17 ⟨"RingBridges$Frame", "<init>", "()V"⟩ "RingBridges" ∨ w = .methodLinkNest "RingBridges$Signal" 11 ⟨"RingBridges$Frame", "<init>", "()V"⟩ "RingBridges" := by simpa [rb_wN] using hw
  rcases hc with rfl | rfl
  · exact va_Nw.same rfl rfl h9
  · exact va_Nw.same rfl rfl h9
theorem rb_blind {al : Bool} {D : va_G} {cA : Nat → ClassId} {b : Nat} {h : rb_H} {as : List Value} {sz : Nat} : FrameBlind (rb_Pc al D cA b h as sz) := by
  intro a U g mk q
  obtain ⟨q0, q1, q2, qP, qK, qD⟩ := q
  exact ⟨q0, q1, fun h9 => ⟨(q2 h9).1, (q2 h9).2.call⟩, qP, va_K.moved (u := U) (U := U.calling g mk a) (Vm.Alike.refl U.vm) qK, qD⟩
section RBN
variable {p : Program} {l : Launch} {e : Env} {R : Room} {s : State} {m : MethodId} {args : Array Value} {below : List Frame} {meth : Method} {c : Code} {H : Heap} {locs : List Loc} {cells slots : Nat} {Q : State → Prop}
variable {D : va_G} {cA : Nat → ClassId} {b : Nat} {A : Nat → Prop} {h0 h : rb_H} {k pc : Nat} {ls st : List Value} {arr : Array Slot} {al : Bool}
theorem rb_pre {as : List Value} (hK : va_K D rb_cl (rb_tys cA) s) (hI : rb_Inv D cA b A s.heap h0 h H locs cells slots) (hal : al = true → H.size = b + h.1 ∧ rb_E s) : ∀ U : State, U.heap = H → s.WarmedH U.vm → rb_Pc al D cA b h as H.size (as.map (rb_rv b)).toArray U := by
  intro U hU hW
  exact ⟨rfl, by rw [hU], fun h9 => ⟨(hal h9).1, (hal h9).2.moved hW⟩, by rw [hU]; exact hI.1, va_K.moved hW.alike hK, hI.2.1.weaken (fun _ _ _ _ => trivial)⟩
theorem rb_args_inv {ms n : Nat} {x : Nat × List Value × List Value} (hs : rb_args ms n ls st h = some (.inr (.inl x))) : n ≤ st.length ∧ (st.drop n).length ≤ 8 ∧ (st.drop n).all rb_ok = true ∧ x = (ms, (st.take n).reverse, st.drop n) := by
  unfold rb_args at hs
  split at hs
  · rename_i h1
    split at hs
    · rename_i h2
      split at hs
      · rename_i h3
        exact ⟨Nat.le_of_ble_eq_true h1, Nat.le_of_ble_eq_true h2, h3, (Sum.inl.inj (Sum.inr.inj (Option.some.inj hs))).symm⟩
      · cases hs
    · cases hs
  · cases hs
theorem rb_stk (b n : Nat) (st : List Value) : st.map (rb_rv b) = (((st.take n).reverse).map (rb_rv b)).reverse ++ (st.drop n).map (rb_rv b) := by
  rw [← List.map_reverse, List.reverse_reverse, ← List.map_append, List.take_append_drop]
theorem rb_ret (b : Nat) (v : Option Value) (r : List Value) : (v.toList ++ r).map (rb_rv b) = (v.map (rb_rv b)).toList ++ r.map (rb_rv b) := by
  cases v <;> rfl
set_option maxHeartbeats 4000000 in
theorem rb_callW {d : Nat} (hx : p.tables.exec = Jvm.exec) (hb : c.code = rb_b k) (hml : c.maxLocals = rb_ml k) (hts : ∀ w ∈ rb_wsk k, w.before args s = true) (hown : s.vm.findClass (rb_on k) = some m.cls) (hK : va_K D rb_cl (rb_tys cA) s)
    (hA : ∀ q, s.heap.size ≤ q → A q) (hR : d + 1 ≤ R.frames ∧ 40 * (d + 1) ≤ R.locals) (hal : al = true → s.heap.size = b + h0.1 ∧ rb_E s)
    {q : rb_I} (hq : rb_chk k pc q = true) (hiv : rb_isinv q.1 = true) {x : Nat × List Value × List Value} (hs : rb_step k al q.1 q.2.1 q.2.2.1 q.2.2.2.1 q.2.2.2.2 ls st h = some (.inr (.inl x)))
    (hI : rb_Inv D cA b A s.heap h0 h H locs cells slots) (hL : rb_L b ls arr) (hlen : ls.length = rb_ml k) {v : Option Value} {h1 : rb_H} (hle : rb_le h h1) (hroom : h1.1 ≤ h0.1 + R.cells ∧ h1.2.1 ≤ h0.2.1 + R.slots)
    (hM : x.1 < rb_nm → ∀ sz : Nat, Met l (rb_y x.1) (rb_wsk x.1) (rb_rm d (h1.1 - h.1) (h1.2.1 - h.2.1)) (rb_Pc al D cA b h x.2.1 sz) (rb_Qc D cA b h sz v h1) (h1.1 - h.1) (h1.2.1 - h.2.1) (va_A (rb_w b cA h) sz))
    (kk : ∀ (H1 : Heap) (locs1 : List Loc) (cells1 slots1 : Nat), rb_Inv D cA b A s.heap h0 h1 H1 locs1 cells1 slots1 → W p l e R s m args below meth c H1 locs1 cells1 slots1 Q (F0 m q.2.1 arr ((v.toList ++ x.2.2).map (rb_rv b)))) :
    W p l e R s m args below meth c H locs cells slots Q (F0 m pc arr (st.map (rb_rv b))) := by
  obtain ⟨i, nx, a, b', kc⟩ := q
  refine rb_Wsz (fun hz => ?_)
  have hal2 : al = true → H.size = b + h.1 ∧ rb_E s := fun h9 => ⟨rb_size hI (hal h9).1 hz, (hal h9).2⟩
  have hts2 : ∀ w ∈ rb_ws, w.before args s = true := fun w hw => hts w (List.mem_cons_of_mem _ hw)
  have hAA : ∀ q, va_A (rb_w b cA h) H.size q → A q := by
    rintro q (⟨i, e9, hi⟩ | h9)
    · exact hI.2.1.2 i _ hi
    · exact hA q (Nat.le_trans hI.2.2.1.1 h9)
  have hcl := hI.2.2.2.2.1
  have hsl := hI.2.2.2.2.2
  have hle1 := hle.1
  have hle2 := hle.2.1
  have hroom1 := hroom.1
  have hroom2 := hroom.2
  have hfin : ∀ (H1 : Heap) (locs1 : List Loc), va_P D rb_cl (rb_w b cA h1) H1 → va_D A (rb_w b cA h1) → va_S A s.heap H1 locs1 → rb_Inv D cA b A s.heap h0 h1 H1 locs1 (cells + (h1.1 - h.1)) (slots + (h1.2.1 - h.2.1)) :=
    fun H1 locs1 hP1 hD1 hS1 => ⟨hP1, hD1, hS1, hle.2.2 hI.2.2.2.1, by omega, by omega⟩
  have hcf : cells + (h1.1 - h.1) ≤ R.cells ∧ slots + (h1.2.1 - h.2.1) ≤ R.slots := ⟨by omega, by omega⟩
  cases i with
  | invokestatic idx =>
    obtain ⟨hd, hn, hm⟩ := rb_chk_dec hq rfl
    dsimp only at hn
    subst hn
    simp only [rb_step] at hs
    obtain ⟨g1, g2, g3, rfl⟩ := rb_args_inv hs
    simp only [rb_more, Bool.and_eq_true] at hm
    obtain ⟨⟨⟨hm1, hm9⟩, hm2⟩, hm3⟩ := hm
    obtain ⟨c1, c3, c4, c5⟩ := rb_cok_spec hm1
    have c2 : Cond.methodLink (rb_on k) idx (rb_y a) ∈ rb_ws := rb_hasM_mem hm9
    have hcl2 : (rb_y a).cls = rb_on k := of_decide_eq_true hm2
    have hG : GoodIn (rb_wsk k) (wsS (rb_on k) idx (rb_y a) (rb_wsk a)) := by
      intro w hw
      unfold wsS at hw
      rcases List.mem_append.mp hw with h9 | h9
      · have : w = .methodLink (rb_on k) idx (rb_y a) ∨ w = .static (rb_y a) ∨ w = .initialized (rb_on k) := by simpa using h9
        rcases this with rfl | rfl | rfl
        · exact ⟨List.mem_cons_of_mem _ c2, rb_ws_good _ c2⟩
        · exact ⟨List.mem_cons_of_mem _ (rb_hasV_mem hm3), rb_ws_good _ (rb_hasV_mem hm3)⟩
        · rw [hcl2] at c3
          exact ⟨List.mem_cons_of_mem _ c3, rb_ws_good _ c3⟩
      · exact rb_good_in c1 w h9
    have hrun := va_runS (Ts := rb_wsk k) (As := ((st.take b').reverse).map (rb_rv b)) (rest := (st.drop b').map (rb_rv b)) (g := F0 m pc arr (st.map (rb_rv b))) (H := H) (locs := locs) (cells := cells) (slots := slots) (below := below) (meth := meth) (e := e) (R := R) ⟨hx, hb, hml, hown, hts⟩ (hM c1 H.size) (cwS b' hts hG rfl rfl rfl ⟨hcl2, c4⟩ ⟨by show d + 1 ≤ R.frames; exact hR.1, by show 8 + (rb_ml a + 11) + 40 * d ≤ R.locals; omega⟩) ⟨rb_blind, rb_pre hK hI hal2⟩ rfl (by rw [List.length_map, List.length_reverse, List.length_take]; omega) (hL.1.trans hlen) (rb_stk b b' st) (lv_room (by rw [rb_catsum g3]; exact g2)) hd hcf
    refine rb_after hrun hI.2.2.1 hAA hAA (fun H1 locs1 hP1 hD1 hS1 => ?_)
    have := kk H1 locs1 _ _ (hfin H1 locs1 hP1 hD1 hS1)
    rw [rb_ret] at this
    exact this
  | invokevirtual idx =>
    obtain ⟨hd, hn, hm⟩ := rb_chk_dec hq rfl
    dsimp only at hn
    subst hn
    simp only [rb_step] at hs
    unfold rb_argV at hs
    split at hs
    · rename_i ad As hAs
      split at hs
      · rename_i cc fs he
        split at hs
        · rename_i hcc
          have hcc := Nat.eq_of_beq_eq_true hcc
          subst hcc
          obtain ⟨g1, g2, g3, rfl⟩ := rb_args_inv hs
          simp only [rb_more, Bool.and_eq_true] at hm
          obtain ⟨⟨⟨hm0, hm1⟩, hm9⟩, hm2⟩ := hm
          obtain ⟨c1, c3, c4, c5⟩ := rb_cok_spec hm1
          have c2 : Cond.methodLink (rb_on k) idx (rb_y a) ∈ rb_ws := rb_hasM_mem hm9
          unfold rb_vok at hm2
          split at hm2
          · rename_i qc hqc
            rw [Bool.and_eq_true, Bool.and_eq_true] at hm2
            obtain ⟨⟨v1, v2⟩, v3⟩ := hm2
            have v1 : (rb_y a).cls = qc.1 := of_decide_eq_true v1
            have hG : GoodIn (rb_wsk k) (wsV (rb_on k) idx qc.1 (rb_y a) (rb_wsk a)) := by
              intro w hw
              unfold wsV at hw
              rcases List.mem_append.mp hw with h9 | h9
              · have : w = .methodLink (rb_on k) idx (rb_y a) ∨ w = .instanceMethod (rb_y a) ∨ w = .selects qc.1 (rb_y a) (rb_y a) ∨ w = .initialized qc.1 := by simpa using h9
                rcases this with rfl | rfl | rfl | rfl
                · exact ⟨List.mem_cons_of_mem _ c2, rb_ws_good _ c2⟩
                · exact ⟨List.mem_cons_of_mem _ (rb_hasV_mem v3), rb_ws_good _ (rb_hasV_mem v3)⟩
                · exact ⟨List.mem_cons_of_mem _ (rb_hasV_mem v2), rb_ws_good _ (rb_hasV_mem v2)⟩
                · rw [v1] at c3
                  exact ⟨List.mem_cons_of_mem _ c3, rb_ws_good _ c3⟩
              · exact rb_good_in c1 w h9
            have hb0 : 0 < b' := rb_blt hm0
            have hst : st.map (rb_rv b) = (As.map (rb_rv b)).reverse ++ .ref (b + ad) :: (st.drop b').map (rb_rv b) := by
              rw [rb_stk b b' st, hAs]
              simp [rb_rv]
            have hAl : As.length + 1 = b' := by
              have := congrArg List.length hAs
              rw [List.length_reverse, List.length_take, List.length_cons] at this
              omega
            have hpc := rb_pre (al := al) (as := (st.take b').reverse) hK hI hal2
            rw [hAs] at hpc
            have hM9 := hM c1 H.size
            dsimp only at hM9
            rw [hAs] at hM9
            have hrun := va_runV (Ts := rb_wsk k) (C := qc.1) (b := b + ad) (As := As.map (rb_rv b)) (rest := (st.drop b').map (rb_rv b)) (g := F0 m pc arr (st.map (rb_rv b))) (H := H) (locs := locs) (cells := cells) (slots := slots) (below := below) (meth := meth) (e := e) (R := R) ⟨hx, hb, hml, hown, hts⟩ hM9 (cwV (b' - 1) hts hG rfl rfl rfl ⟨v1, c4⟩ ⟨by show d + 1 ≤ R.frames; exact hR.1, by show 8 + (rb_ml a + 11) + 40 * d ≤ R.locals; omega⟩) ⟨rb_blind, va_recv hK hI.1 hqc (rb_atO he (rb_inO hI.2.2.2.1 he (rb_clt hqc))), hpc⟩ rfl (by rw [List.length_map]; omega) (hL.1.trans hlen) hst (lv_room (by rw [rb_catsum g3]; exact g2)) hd hcf
            refine rb_after hrun hI.2.2.1 hAA hAA (fun H1 locs1 hP1 hD1 hS1 => ?_)
            have := kk H1 locs1 _ _ (hfin H1 locs1 hP1 hD1 hS1)
            rw [rb_ret] at this
            exact this
          · cases hm2
        · cases hs
      · cases hs
    · cases hs
  | invokespecial idx =>
    obtain ⟨hd, hn, hm⟩ := rb_chk_dec hq rfl
    dsimp only at hn
    subst hn
    simp only [rb_step] at hs
    split at hs
    · split at hs
      · split at hs
        · split at hs
          · cases hs
          · cases hs
        · cases hs
      · cases hs
    · rename_i h999
      split at hs
      · cases hs
      · rename_i hkc
        split at hs
        · rename_i ad As hAs
          obtain ⟨g1, g2, g3, rfl⟩ := rb_args_inv hs
          simp only [rb_more, Bool.or_eq_true, Bool.and_eq_true] at hm
          rcases hm with hm | hm
          · rw [hm.1] at h999
            cases h999
          · obtain ⟨⟨⟨⟨⟨hm0, hm1⟩, hm9⟩, hm2⟩, hm3⟩, hm4⟩ := hm
            obtain ⟨c1, c3, c4, c5⟩ := rb_cok_spec hm1
            have hrt : rb_rt a = none := of_decide_eq_true hm4
            have hb0 : 0 < b' := rb_blt hm0
            have hst : st.map (rb_rv b) = (As.map (rb_rv b)).reverse ++ .ref (b + ad) :: (st.drop b').map (rb_rv b) := by
              rw [rb_stk b b' st, hAs]
              simp [rb_rv]
            have hAl : As.length + 1 = b' := by
              have := congrArg List.length hAs
              rw [List.length_reverse, List.length_take, List.length_cons] at this
              omega
            have hpc := rb_pre (al := al) (as := (st.take b').reverse) hK hI hal2
            rw [hAs] at hpc
            have hM9 := hM c1 H.size
            dsimp only at hM9
            rw [hAs] at hM9
            rcases hm9 with hm9 | hm9
            · have c2 : Cond.methodLink (rb_on k) idx (rb_y a) ∈ rb_ws := rb_hasM_mem hm9.2
              have hrun := va_runI (Ts := rb_wsk k) (bytes := rb_b a) (maxL := rb_ml a) (b := b + ad) (As := As.map (rb_rv b)) (rest := (st.drop b').map (rb_rv b)) (g := F0 m pc arr (st.map (rb_rv b))) (H := H) (locs := locs) (cells := cells) (slots := slots) (below := below) (meth := meth) (e := e) (R := R) ⟨hx, hb, hml, hown, hts⟩ hM9 (cwI (b' - 1) hts (rb_good_in c1) (by unfold rb_wsk; rw [hrt]) rfl rfl (hts2 _ c3) (hts2 _ c2) (hts2 _ (rb_hasV_mem hm3)) (of_decide_eq_true hm2) c4 ⟨by show d + 1 ≤ R.frames; exact hR.1, by show 8 + (rb_ml a + 11) + 40 * d ≤ R.locals; omega⟩) ⟨rb_blind, hpc⟩ rfl (by rw [List.length_map]; omega) (hL.1.trans hlen) hst (lv_room (by rw [rb_catsum g3]; exact g2)) hd hcf
              refine rb_after hrun hI.2.2.1 hAA hAA (fun H1 locs1 hP1 hD1 hS1 => ?_)
              have := kk H1 locs1 _ _ (hfin H1 locs1 hP1 hD1 hS1)
              rw [rb_ret] at this
              exact this
            · have hal9 : al = true := by
                rw [hm9.1] at hkc
                cases al
                · cases hkc
                · rfl
              have c2 : va_Nw (.methodLinkNest (rb_on k) idx (rb_y a) "RingBridges") s := (hal hal9).2.2.2 _ (rb_hasN_mem hm9.2)
              have hrun := va_runIN (Ts := rb_wsk k) (bytes := rb_b a) (maxL := rb_ml a) (b := b + ad) (As := As.map (rb_rv b)) (rest := (st.drop b').map (rb_rv b)) (g := F0 m pc arr (st.map (rb_rv b))) (H := H) (locs := locs) (cells := cells) (slots := slots) (below := below) (meth := meth) (e := e) (R := R) ⟨hx, hb, hml, hown, hts⟩ hM9 ⟨va_cnB (b' - 1) hts (rb_good_in c1) (by unfold rb_wsk; rw [hrt]) rfl rfl c2 (hts2 _ c3) c4 ⟨by show d + 1 ≤ R.frames; exact hR.1, by show 8 + (rb_ml a + 11) + 40 * d ≤ R.locals; omega⟩, of_decide_eq_true hm2, hts2 _ (rb_hasV_mem hm3)⟩ ⟨rb_blind, hpc⟩ rfl (by rw [List.length_map]; omega) (hL.1.trans hlen) hst (lv_room (by rw [rb_catsum g3]; exact g2)) hd hcf
              refine rb_after hrun hI.2.2.1 hAA hAA (fun H1 locs1 hP1 hD1 hS1 => ?_)
              have := kk H1 locs1 _ _ (hfin H1 locs1 hP1 hD1 hS1)
              rw [rb_ret] at this
              exact this
        · cases hs
  | _ => cases hiv
end RBN
end
section
section RBO
variable {p : Program} {l : Launch} {e : Env} {R : Room} {s : State} {m : MethodId} {args : Array Value} {below : List Frame} {meth : Method} {c : Code} {H : Heap} {locs : List Loc} {cells slots : Nat}
variable {D : va_G} {cA : Nat → ClassId} {b : Nat} {A : Nat → Prop} {h0 h : rb_H} {k pc : Nat} {ls st : List Value} {arr : Array Slot} {al : Bool}
set_option maxHeartbeats 4000000 in
theorem rb_retW (hx : p.tables.exec = Jvm.exec) (hb : c.code = rb_b k) (hrt : meth.sig.returnType = rb_rt k) (hlocks : meth.locks = false)
    {q : rb_I} (hq : rb_chk k pc q = true) (hiv : rb_isret q.1 = true) {v : Option Value} (hs : rb_step k al q.1 q.2.1 q.2.2.1 q.2.2.2.1 q.2.2.2.2 ls st h = some (.inr (.inr v)))
    {Qc : Array Value → State → Outcome → State → Prop} {free : Addr → Prop} (hQ : ∀ t : State, t.heap = H → s.WarmedH t.vm → Qc args s (.returned (v.map (rb_rv b))) t) (hf : ∀ q ∈ locs, free q.base) :
    W p l e R s m args below meth c H locs cells slots (MQ below Qc args s cells slots free) (F0 m pc arr (st.map (rb_rv b))) := by
  obtain ⟨i, nx, a, b', kc⟩ := q
  cases i with
  | ireturn =>
    obtain ⟨hd, hn, hm⟩ := rb_chk_dec hq rfl
    simp only [rb_step] at hs
    split at hs
    · split at hs
      · rename_i ty hty
        split at hs
        · rename_i hfit
          have e1 := Sum.inr.inj (Sum.inr.inj (Option.some.inj hs))
          subst e1
          exact W.zret hx hb (hrt.trans hty) (rb_fit_spec b hfit).1 hQ hf hd hlocks
        · cases hs
      · cases hs
    · cases hs
  | areturn =>
    obtain ⟨hd, hn, hm⟩ := rb_chk_dec hq rfl
    simp only [rb_step] at hs
    split at hs
    · split at hs
      · rename_i ty hty
        have e1 := Sum.inr.inj (Sum.inr.inj (Option.some.inj hs))
        subst e1
        exact W.aret hx hb (hrt.trans hty) (Or.inl ⟨_, rfl⟩) (Or.inr ⟨_, rfl⟩) hQ hf hd hlocks
      · cases hs
    · split at hs
      · rename_i ty hty
        have e1 := Sum.inr.inj (Sum.inr.inj (Option.some.inj hs))
        subst e1
        exact W.aret hx hb (hrt.trans hty) (Or.inl ⟨_, rfl⟩) (Or.inl rfl) hQ hf hd hlocks
      · cases hs
    · cases hs
  | return_ =>
    obtain ⟨hd, hn, hm⟩ := rb_chk_dec hq rfl
    simp only [rb_step] at hs
    split at hs
    · rename_i hty
      have e1 := Sum.inr.inj (Sum.inr.inj (Option.some.inj hs))
      subst e1
      exact W.vret hx hb (hrt.trans hty) hQ hf hd hlocks
    · cases hs
  | _ => cases hiv
end RBO
theorem rb_lgl (b : Nat) : ∀ {as : List Value}, as.all rb_ok = true → (lg_sl (as.map (rb_rv b))).length = as.length
  | [], _ => rfl
  | v :: r, h => by
    rw [List.all_cons, Bool.and_eq_true] at h
    have h1 := rb_lgl b h.2
    unfold lg_sl at h1 ⊢
    rw [List.map_cons, List.flatMap_cons, List.length_append, h1, rb_rv_cat h.1]
    simp
    omega
theorem rb_lga (b : Nat) : ∀ {as : List Value} (i j : Nat) (v : Value), as.all rb_ok = true → as[j]? = some v → (i + j, rb_rv b v) ∈ lv_args i (as.map (rb_rv b))
  | [], i, j, v, _, hv => by simp at hv
  | w :: r, i, 0, v, h, hv => by
    have e : w = v := by simpa using hv
    subst e
    exact List.mem_cons_self
  | w :: r, i, j + 1, v, h, hv => by
    rw [List.all_cons, Bool.and_eq_true] at h
    have h1 : r[j]? = some v := by simpa using hv
    have h2 := rb_lga b (i + 1) j v h.2 h1
    show _ ∈ (i, rb_rv b w) :: lv_args (if (rb_rv b w).category = 2 then i + 2 else i + 1) (r.map (rb_rv b))
    rw [rb_rv_cat h.1, if_neg (by decide)]
    refine List.mem_cons_of_mem _ ?_
    rw [show i + (j + 1) = i + 1 + j by omega]
    exact h2
theorem rb_entL {b k : Nat} {as : List Value} {arr : Array Slot} (ha : as.all rb_ok = true) (hn : as.length ≤ rb_ml k) (h : lv_has arr (rb_ml k) (lv_args 0 (as.map (rb_rv b)))) : rb_L b (rb_ent k as) arr ∧ (rb_ent k as).length = rb_ml k := by
  have hl : (rb_ent k as).length = rb_ml k := by
    unfold rb_ent
    rw [List.length_append, List.length_replicate]
    omega
  refine ⟨⟨h.1.trans hl.symm, h.2.1, fun i v hi hv => ?_⟩, hl⟩
  unfold rb_ent at hi
  by_cases h9 : i < as.length
  · rw [List.getElem?_append_left h9] at hi
    have := h.2.2 _ (rb_lga b 0 i v ha hi)
    simpa using this
  · rw [List.getElem?_append_right (by omega)] at hi
    have h8 := List.eq_of_mem_replicate (List.mem_of_getElem? hi)
    rw [h8] at hv
    cases hv
set_option maxHeartbeats 8000000 in
theorem rb_met {l : Launch} {D : va_G} {cA : Nat → ClassId} {b : Nat} {al : Bool} : ∀ (d k : Nat) (as : List Value) (h : rb_H) (r : Option Value) (h' : rb_H), rb_rel al d k as h r h' → k < rb_nm → (∀ i, h.1 ≤ i → h.2.2 i = rb_blank) → ∀ sz : Nat, Met l (rb_y k) (rb_wsk k) (rb_rm d (h'.1 - h.1) (h'.2.1 - h.2.1)) (rb_Pc al D cA b h as sz) (rb_Qc D cA b h sz r h') (h'.1 - h.1) (h'.2.1 - h.2.1) (va_A (rb_w b cA h) sz)
  | 0, _, _, _, _, _, hx, _, _, _ => hx.elim
  | d + 1, k, as, h, r, h', hr, hk, hbl, sz => by
    have hle0 := rb_rel_le (d + 1) k as h r h' hr
    obtain ⟨hok, hlen, n, hex⟩ := hr
    refine Met.ofW (cc := rb_b k) (maxL := rb_ml k) (ret := rb_rt k) (rb_plain hk) rfl ?_
    intro p e s m args below meth c s₁ B hml hv
    obtain ⟨rfl, hsz, hal, hP, hK, hD⟩ := hv
    have hx := B.exec
    have hb := B.bytes
    have hrt := B.returns
    have hts := atoms_spec (ws := rb_wsk k) B.pre
    have hts2 : ∀ w ∈ rb_ws, w.before (as.map (rb_rv b)).toArray s = true := fun w hw => hts w (List.mem_cons_of_mem _ hw)
    have hown : s.vm.findClass (rb_on k) = some m.cls := by
      rw [← rb_on_ok hk]
      exact findClass_of_methodNamed B.named
    have hlocks := B.notSynchronized
    have hnm : meth.name = (rb_y k).name := (name_of_methodNamed B.named B.method).1
    subst hsz
    have hl := lv_entry (as.map (rb_rv b)) (n := rb_ml k) (by rw [rb_lgl b hok]; exact hlen)
    rw [lg_entry_eq]
    generalize (lg_sl (as.map (rb_rv b)) ++ List.replicate (rb_ml k - (lg_sl (as.map (rb_rv b))).length) Slot.unset).toArray = arr at hl ⊢
    obtain ⟨hL, hLl⟩ := rb_entL hok hlen hl
    have hA : ∀ q : Nat, s.heap.size ≤ q → va_A (rb_w b cA h) s.heap.size q := fun q h9 => Or.inr h9
    have hI : rb_Inv D cA b (va_A (rb_w b cA h) s.heap.size) s.heap h h s.heap [] 0 0 := ⟨hP, hD.self, va_S.rf, hbl, rfl, rfl⟩
    have hal2 : al = true → s.heap.size = b + h.1 ∧ (∀ q, va_A (rb_w b cA h) s.heap.size q → b ≤ q) ∧ rb_E s := by
      intro h9
      refine ⟨(hal h9).1, fun q hq => ?_, (hal h9).2⟩
      rcases hq with ⟨i, e9, hi⟩ | h8
      · have h7 : i < h.1 := by
          have := (List.getElem?_eq_some_iff.mp hi).1
          rw [rb_w_len] at this
          exact this
        rw [rb_w_get h7] at hi
        have := congrArg Prod.fst (Option.some.inj hi)
        dsimp only at this
        omega
      · have := (hal h9).1
        omega
    have hR : d + 1 ≤ (headSpec (rb_wsk k) (rb_rm (d + 1) (h'.1 - h.1) (h'.2.1 - h.2.1))).room.frames ∧ 40 * (d + 1) ≤ (headSpec (rb_wsk k) (rb_rm (d + 1) (h'.1 - h.1) (h'.2.1 - h.2.1))).room.locals := ⟨Nat.le_refl _, Nat.le_refl _⟩
    have hRc : (headSpec (rb_wsk k) (rb_rm (d + 1) (h'.1 - h.1) (h'.2.1 - h.2.1))).room.cells = h'.1 - h.1 := rfl
    have hRs : (headSpec (rb_wsk k) (rb_rm (d + 1) (h'.1 - h.1) (h'.2.1 - h.2.1))).room.slots = h'.2.1 - h.2.1 := rfl
    generalize (headSpec (rb_wsk k) (rb_rm (d + 1) (h'.1 - h.1) (h'.2.1 - h.2.1))).room = R at hR hRc hRs ⊢
    have walk : ∀ (n pc : Nat) (ls st : List Value) (g : rb_H) (H : Heap) (locs : List Loc) (cells slots : Nat) (arr : Array Slot), rb_ex (rb_rel al d) al k n pc ls st g r h' → rb_Inv D cA b (va_A (rb_w b cA h) s.heap.size) s.heap h g H locs cells slots → rb_L b ls arr → ls.length = rb_ml k →
        W p l e R s m (as.map (rb_rv b)).toArray below meth c H locs cells slots (MQ below (rb_Qc D cA b h s.heap.size r h') (as.map (rb_rv b)).toArray s (h'.1 - h.1) (h'.2.1 - h.2.1) (va_A (rb_w b cA h) s.heap.size)) (F0 m pc arr (st.map (rb_rv b))) := by
      intro n
      induction n with
      | zero => intro _ _ _ _ _ _ _ _ _ hex; exact hex.elim
      | succ n ih =>
        intro pc ls st g H locs cells slots arr hex hI hL hLl
        unfold rb_ex at hex
        split at hex
        · exact hex.elim
        · rename_i q hq
          have hq := rb_ins_ok hq
          split at hex
          · exact hex.elim
          · rename_i x hs
            have hle := rb_ex_le (fun k as h v h1 hc => rb_rel_le d k as h v h1 hc) n _ _ _ _ _ _ hex
            have hle1 := hle.1
            have hle2 := hle.2.1
            have hle3 := hle0.1
            have hle4 := hle0.2.1
            exact rb_stepW hx hb hml hts2 hown hnm hK hA ⟨by omega, by omega⟩ hal2 hq hs hI hL hLl ⟨by omega, by omega⟩ (fun H1 locs1 cells1 slots1 arr1 hI1 hL1 hl1 => ih _ _ _ _ _ _ _ _ _ hex hI1 hL1 hl1)
          · rename_i x hs
            obtain ⟨hiv, v, h1, hc, hex⟩ := hex
            have hle := rb_ex_le (fun k as h v h1 hc => rb_rel_le d k as h v h1 hc) n _ _ _ _ _ _ hex
            have hle9 := rb_rel_le d _ _ _ _ _ hc
            have hle1 := hle.1
            have hle2 := hle.2.1
            have hle3 := hle0.1
            have hle4 := hle0.2.1
            exact rb_callW hx hb hml hts hown hK hA hR (fun h9 => ⟨(hal2 h9).1, (hal2 h9).2.2⟩) hq hiv hs hI hL hLl hle9 ⟨by omega, by omega⟩ (fun hk2 sz => rb_met d _ _ _ _ _ hc hk2 hI.2.2.2.1 sz) (fun H1 locs1 cells1 slots1 hI1 => ih _ _ _ _ _ _ _ _ _ hex hI1 hL hLl)
          · rename_i v hs
            obtain ⟨hiv, rfl, rfl⟩ := hex
            have e1 : cells = h'.1 - h.1 := by have := hI.2.2.2.2.1; omega
            have e2 : slots = h'.2.1 - h.2.1 := by have := hI.2.2.2.2.2; omega
            rw [← e1, ← e2]
            exact rb_retW hx hb hrt hlocks hq hiv hs (fun t ht hW => ⟨⟨rfl, by rw [ht]; exact hI.1, hI.2.1⟩, hI.2.2.1.F ht⟩) hI.2.2.1.2.2
    exact walk n 0 (rb_ent k as) [] h s.heap [] 0 0 arr hex hI hL hLl
end
section
/-! runs, goal first -/
def rb_wp (d k pc : Nat) (ls st : List Value) (h : rb_H) (Q : Option Value → rb_H → Prop) : Prop := ∃ (n : Nat) (r : Option Value) (h' : rb_H), rb_ex (rb_rel false d) false k n pc ls st h r h' ∧ Q r h'
def rb_cw (d k : Nat) (as : List Value) (h : rb_H) (Q : Option Value → rb_H → Prop) : Prop := ∃ (r : Option Value) (h' : rb_H), rb_rel false d k as h r h' ∧ Q r h'
section RWP
variable {d k pc nx a b : Nat} {ls st : List Value} {h : rb_H} {Q : Option Value → rb_H → Prop} {i : Jvm.ClassFile.Instr} {kc : Int32}
theorem rw_step {pc' : Nat} {ls' st' : List Value} {h' : rb_H} (hi : rb_ins k pc = some (i, nx, a, b, kc)) (hs : rb_step k false i nx a b kc ls st h = some (.inl (pc', ls', st', h'))) (kk : rb_wp d k pc' ls' st' h' Q) : rb_wp d k pc ls st h Q := by
  obtain ⟨n, r, h1, hx, hq⟩ := kk
  refine ⟨n + 1, r, h1, ?_, hq⟩
  unfold rb_ex
  rw [hi]
  dsimp only
  rw [hs]
  exact hx
theorem rw_call {m : Nat} {as rest : List Value} (hi : rb_ins k pc = some (i, nx, a, b, kc)) (hv : rb_isinv i = true) (hs : rb_step k false i nx a b kc ls st h = some (.inr (.inl (m, as, rest)))) (kk : rb_cw d m as h (fun v h1 => rb_wp d k nx ls (v.toList ++ rest) h1 Q)) : rb_wp d k pc ls st h Q := by
  obtain ⟨v, h1, hc, n, r, h2, hx, hq⟩ := kk
  refine ⟨n + 1, r, h2, ?_, hq⟩
  unfold rb_ex
  rw [hi]
  dsimp only
  rw [hs]
  exact ⟨hv, v, h1, hc, hx⟩
theorem rw_ret {v : Option Value} (hi : rb_ins k pc = some (i, nx, a, b, kc)) (hv : rb_isret i = true) (hs : rb_step k false i nx a b kc ls st h = some (.inr (.inr v))) (kk : Q v h) : rb_wp d k pc ls st h Q := by
  refine ⟨1, v, h, ?_, kk⟩
  unfold rb_ex
  rw [hi]
  dsimp only
  rw [hs]
  exact ⟨hv, rfl, rfl⟩
theorem rw_ent {as ls : List Value} (h1 : as.all rb_ok = true) (h2 : Nat.ble as.length (rb_ml k) = true) (hl : rb_ent k as = ls) (kk : rb_wp d k 0 ls [] h Q) : rb_cw (d + 1) k as h Q := by
  subst hl
  obtain ⟨n, r, h1', hx, hq⟩ := kk
  exact ⟨r, h1', ⟨h1, Nat.le_of_ble_eq_true h2, n, hx⟩, hq⟩
theorem rw_mono {Q' : Option Value → rb_H → Prop} {as : List Value} (hc : rb_cw d k as h Q) (hq : ∀ r h', Q r h' → Q' r h') : rb_cw d k as h Q' := by
  obtain ⟨r, h', h1, h2⟩ := hc
  exact ⟨r, h', h1, hq r h' h2⟩
theorem rw_icmp {cd : Jvm.ClassFile.Cond} {o : Int} {x y : Int32} {r : List Value} (hi : rb_ins k pc = some (.if_icmp cd o, nx, a, b, kc)) (kt : rb_cmp cd x y = true → rb_wp d k a ls r h Q) (kf : rb_cmp cd x y = false → rb_wp d k nx ls r h Q) : rb_wp d k pc ls (.int y :: .int x :: r) h Q := by
  cases hc : rb_cmp cd x y with
  | true => exact rw_step hi (by simp only [rb_step, hc]; rfl) (kt hc)
  | false => exact rw_step hi (by simp only [rb_step, hc]; rfl) (kf hc)
theorem rw_if {cd : Jvm.ClassFile.Cond} {o : Int} {x : Int32} {r : List Value} (hi : rb_ins k pc = some (.ifCond cd o, nx, a, b, kc)) (kt : rb_cmp cd x 0 = true → rb_wp d k a ls r h Q) (kf : rb_cmp cd x 0 = false → rb_wp d k nx ls r h Q) : rb_wp d k pc ls (.int x :: r) h Q := by
  cases hc : rb_cmp cd x 0 with
  | true => exact rw_step hi (by simp only [rb_step, hc]; rfl) (kt hc)
  | false => exact rw_step hi (by simp only [rb_step, hc]; rfl) (kf hc)
theorem rw_iald {x : Int32} {ad n : Nat} {r : List Value} {f : Nat → Int32} (hi : rb_ins k pc = some (.iaload, nx, a, b, kc)) (he : h.2.2 ad = .inl (0, n, .inl f)) (hin : vp_in x n) (kk : rb_wp d k nx ls (.int (f x.toNatClampNeg) :: r) h Q) : rb_wp d k pc ls (.int x :: .ref ad :: r) h Q := by
  refine rw_step hi ?_ kk
  have ho : rb_out x n = false := decide_eq_false hin
  simp only [rb_step, rb_ald, he, ho]
  rfl
theorem rw_bald {x : Int32} {ad n : Nat} {r : List Value} {f : Nat → Int32} (hi : rb_ins k pc = some (.baload, nx, a, b, kc)) (he : h.2.2 ad = .inl (1, n, .inl f)) (hin : vp_in x n) (kk : rb_wp d k nx ls (.int (f x.toNatClampNeg) :: r) h Q) : rb_wp d k pc ls (.int x :: .ref ad :: r) h Q := by
  refine rw_step hi ?_ kk
  have ho : rb_out x n = false := decide_eq_false hin
  simp only [rb_step, rb_ald, he, ho]
  rfl
theorem rw_iast {x v : Int32} {ad n : Nat} {r : List Value} {f : Nat → Int32} (hi : rb_ins k pc = some (.iastore, nx, a, b, kc)) (he : h.2.2 ad = .inl (0, n, .inl f)) (hin : vp_in x n) (kk : rb_wp d k nx ls r (h.1, h.2.1, va_up h.2.2 ad (.inl (0, n, .inl (upd f x.toNatClampNeg v)))) Q) : rb_wp d k pc ls (.int v :: .int x :: .ref ad :: r) h Q := by
  refine rw_step hi ?_ kk
  have ho : rb_out x n = false := decide_eq_false hin
  simp only [rb_step, rb_ast, he, ho]
  rfl
theorem rw_bast {x v : Int32} {ad n : Nat} {r : List Value} {f : Nat → Int32} (hi : rb_ins k pc = some (.bastore, nx, a, b, kc)) (hv : rb_fit .boolean (.int v) = true) (he : h.2.2 ad = .inl (1, n, .inl f)) (hin : vp_in x n) (kk : rb_wp d k nx ls r (h.1, h.2.1, va_up h.2.2 ad (.inl (1, n, .inl (upd f x.toNatClampNeg v)))) Q) : rb_wp d k pc ls (.int v :: .int x :: .ref ad :: r) h Q := by
  refine rw_step hi ?_ kk
  have ho : rb_out x n = false := decide_eq_false hin
  simp only [rb_step, rb_ast, he, ho, hv]
  rfl
theorem rw_aald {x : Int32} {ad n t : Nat} {r : List Value} {f : Nat → Option Nat} (hi : rb_ins k pc = some (.aaload, nx, a, b, kc)) (he : h.2.2 ad = .inl (t, n, .inr (.inr (.inr (.inr f))))) (ht : (Nat.ble 2 t && Nat.blt t 7) = true) (hin : vp_in x n) (kk : rb_wp d k nx ls (va_rf (f x.toNatClampNeg) :: r) h Q) : rb_wp d k pc ls (.int x :: .ref ad :: r) h Q := by
  refine rw_step hi ?_ kk
  have ho : rb_out x n = false := decide_eq_false hin
  simp only [rb_step, rb_rald, he, ho, ht]
  rfl
theorem rw_get {idx : Nat} {ad : Nat} {r fs : List Value} {v : Value} (hi : rb_ins k pc = some (.getfield idx, nx, a, b, kc)) (he : h.2.2 ad = .inr (a, fs)) (hv : fs[b]? = some v) (kk : rb_wp d k nx ls (v :: r) h Q) : rb_wp d k pc ls (.ref ad :: r) h Q := by
  refine rw_step hi ?_ kk
  have hc : Nat.beq a a = true := Nat.beq_refl a
  simp only [rb_step, rb_get, he, hc, hv]
  rfl
theorem rw_put {idx : Nat} {ad : Nat} {r fs : List Value} {v : Value} (hi : rb_ins k pc = some (.putfield idx, nx, a, b, kc)) (he : h.2.2 ad = .inr (a, fs)) (hf : rb_fit (rb_tt a b) v = true) (hb : Nat.blt b fs.length = true) (kk : rb_wp d k nx ls r (h.1, h.2.1, va_up h.2.2 ad (.inr (a, fs.set b v))) Q) : rb_wp d k pc ls (v :: .ref ad :: r) h Q := by
  refine rw_step hi ?_ kk
  have hc : Nat.beq a a = true := Nat.beq_refl a
  simp only [rb_step, rb_put, he, hc, hf, hb]
  rfl
end RWP
/-! the same machine as a function, for runs that the kernel does -/
def rb_run (C : Nat → List Value → rb_H → Option (Option Value × rb_H)) (al : Bool) (k : Nat) : Nat → Nat → List Value → List Value → rb_H → Option (Option Value × rb_H)
  | 0, _, _, _, _ => none
  | n + 1, pc, ls, st, h => match rb_ins k pc with
    | none => none
    | some q => match rb_step k al q.1 q.2.1 q.2.2.1 q.2.2.2.1 q.2.2.2.2 ls st h with
      | none => none
      | some (.inl x) => rb_run C al k n x.1 x.2.1 x.2.2.1 x.2.2.2
      | some (.inr (.inl x)) => match rb_isinv q.1 with
        | true => match C x.1 x.2.1 h with
          | none => none
          | some y => rb_run C al k n q.2.1 ls (y.1.toList ++ x.2.2) y.2
        | false => none
      | some (.inr (.inr v)) => match rb_isret q.1 with
        | true => some (v, h)
        | false => none
def rb_fn (al : Bool) (F : Nat) : Nat → Nat → List Value → rb_H → Option (Option Value × rb_H)
  | 0, _, _, _ => none
  | d + 1, k, as, h => match as.all rb_ok && Nat.ble as.length (rb_ml k) with
    | true => rb_run (rb_fn al F d) al k F 0 (rb_ent k as) [] h
    | false => none
theorem rb_run_ex {C : Nat → List Value → rb_H → Option (Option Value × rb_H)} {C' : Nat → List Value → rb_H → Option Value → rb_H → Prop} {al : Bool} {k : Nat} (hC : ∀ m as h y, C m as h = some y → C' m as h y.1 y.2) : ∀ (n pc : Nat) (ls st : List Value) (h : rb_H) (y : Option Value × rb_H), rb_run C al k n pc ls st h = some y → rb_ex C' al k n pc ls st h y.1 y.2
  | 0, _, _, _, _, _, hr => by cases hr
  | n + 1, pc, ls, st, h, y, hr => by
    unfold rb_run at hr
    unfold rb_ex
    split at hr
    · cases hr
    · rename_i q hq
      rw [hq]
      dsimp only
      split at hr
      · cases hr
      · rename_i x hs
        rw [hs]
        exact rb_run_ex hC n _ _ _ _ y hr
      · rename_i x hs
        rw [hs]
        split at hr
        · rename_i hv
          split at hr
          · cases hr
          · rename_i z hz
            exact ⟨hv, z.1, z.2, hC _ _ _ _ hz, rb_run_ex hC n _ _ _ _ y hr⟩
        · cases hr
      · rename_i v hs
        rw [hs]
        split at hr
        · rename_i hv
          cases hr
          exact ⟨hv, rfl, rfl⟩
        · cases hr
theorem rb_fn_rel {al : Bool} {F : Nat} : ∀ (d k : Nat) (as : List Value) (h : rb_H) (y : Option Value × rb_H), rb_fn al F d k as h = some y → rb_rel al d k as h y.1 y.2
  | 0, _, _, _, _, hr => by cases hr
  | d + 1, k, as, h, y, hr => by
    unfold rb_fn at hr
    split at hr
    · rename_i hc
      rw [Bool.and_eq_true] at hc
      exact ⟨hc.1, Nat.le_of_ble_eq_true hc.2, F, rb_run_ex (fun m as h y hy => rb_fn_rel d m as h y hy) F _ _ _ _ y hr⟩
    · cases hr
end
section
/-! the constructors, run by the kernel -/
def rb_hR0 : rb_H := (1, 55, va_up (fun _ => rb_blank) 0 (.inr (7, rb_df 7)))
def rb_hC0 : rb_H := (1, 4, va_up (fun _ => rb_blank) 0 (.inr (0, rb_df 0)))
set_option maxRecDepth 1000000 in
theorem rb_conR : (rb_fn true 1000 2 43 [.ref 0] rb_hR0).map (fun y => (y.1, y.2.1, y.2.2.1)) = some (none, 55, 1603) := by decide +kernel
set_option maxRecDepth 1000000 in
theorem rb_conC : (rb_fn true 3000 5 0 [.ref 0] rb_hC0).map (fun y => (y.1, y.2.1, y.2.2.1)) = some (none, 166, 1286) := by decide +kernel
end
section
/-! the words that the pure machine rests on are among those of the start -/
theorem rb_posin {L big : List Jvm.Cond} (ps : List Nat) (h : L = ps.filterMap (fun i => big[i]?)) {w : Jvm.Cond} (hw : w ∈ L) : w ∈ big := by
  rw [h] at hw
  obtain ⟨i, -, hi⟩ := List.mem_filterMap.mp hw
  exact List.mem_of_getElem? hi
set_option maxRecDepth 1000000 in
theorem rb_wF_p0 : rb_wF.getD 0 [] = ([337, 338, 339, 340, 204, 163, 179, 201, 89, 273, 269, 271, 256, 299, 280, 208, 211, 126, 131, 134, 213, 215, 217, 286, 288, 294, 292, 296, 290, 278, 206, 173, 177, 182, 161, 77, 85, 83, 87, 81, 91, 276, 93, 95, 97, 284, 282] : List Nat).filterMap (fun i => lw_tbl[i]?) := by decide +kernel
set_option maxRecDepth 1000000 in
theorem rb_wF_p1 : rb_wF.getD 1 [] = ([200, 202, 203, 205, 125, 207, 210, 164, 172, 209, 212, 167, 176, 133, 130, 160, 214, 181, 216, 170] : List Nat).filterMap (fun i => lw_tbl[i]?) := by decide +kernel
set_option maxRecDepth 1000000 in
theorem rb_wF_p2 : rb_wF.getD 2 [] = ([121, 122, 123, 124, 127, 128, 132, 79, 169, 166, 175] : List Nat).filterMap (fun i => lw_tbl[i]?) := by decide +kernel
set_option maxRecDepth 1000000 in
theorem rb_wF_p3 : rb_wF.getD 3 [] = ([76, 78, 80, 82, 84, 86, 267, 90, 275, 92, 94, 88, 96] : List Nat).filterMap (fun i => lw_tbl[i]?) := by decide +kernel
set_option maxRecDepth 1000000 in
theorem rb_wF_p4 : rb_wF.getD 4 [] = ([159, 162, 165, 168, 171, 174, 178, 180, 129] : List Nat).filterMap (fun i => lw_tbl[i]?) := by decide +kernel
set_option maxRecDepth 1000000 in
theorem rb_wF_p5 : rb_wF.getD 5 [] = ([266, 268, 270, 272, 274, 277, 279, 281, 283, 285, 287, 289, 291, 293, 295, 297, 298] : List Nat).filterMap (fun i => lw_tbl[i]?) := by decide +kernel
set_option maxRecDepth 1000000 in
theorem rb_wF_p6 : rb_wF.getD 6 [] = ([252, 253, 254, 255] : List Nat).filterMap (fun i => lw_tbl[i]?) := by decide +kernel
set_option maxRecDepth 1000000 in
theorem rb_wF_p7 : rb_wF.getD 7 [] = ([686, 687, 688, 689, 690, 691, 692, 693, 694, 695, 696, 697, 698, 699, 700, 701, 702, 703, 704, 705, 706, 707, 708, 709, 710, 711, 712, 713, 714, 715, 716, 717, 718, 719, 720, 721, 722, 723, 724, 725, 726, 727, 728, 729, 730, 731, 732, 733, 734, 735, 736, 737, 738, 739, 740] : List Nat).filterMap (fun i => lw_tbl[i]?) := by decide +kernel
theorem rb_wF_in {w : Jvm.Cond} (h : w ∈ rb_wF.flatten) : w ∈ lw_tbl := by
  obtain ⟨l, hl, hw⟩ := List.mem_flatten.mp h
  obtain ⟨c, hc⟩ := List.getElem?_of_mem hl
  have e9 : rb_wF.getD c [] = l := by rw [List.getD_eq_getElem?_getD, hc]; rfl
  rw [← e9] at hw
  match c, hc, hw with
  | 0, hc, hw => exact rb_posin _ rb_wF_p0 hw
  | 1, hc, hw => exact rb_posin _ rb_wF_p1 hw
  | 2, hc, hw => exact rb_posin _ rb_wF_p2 hw
  | 3, hc, hw => exact rb_posin _ rb_wF_p3 hw
  | 4, hc, hw => exact rb_posin _ rb_wF_p4 hw
  | 5, hc, hw => exact rb_posin _ rb_wF_p5 hw
  | 6, hc, hw => exact rb_posin _ rb_wF_p6 hw
  | 7, hc, hw => exact rb_posin _ rb_wF_p7 hw
  | n + 8, hc, hw => cases hc
set_option maxRecDepth 1000000 in
theorem rb_wM_p0 : rb_wM.getD 0 [] = ([52, 58, 242, 354, 358, 361, 365, 373, 369, 390, 402, 414, 419, 428, 436, 406, 448, 460, 468, 472, 481, 485, 489, 494, 498, 513, 644, 648, 656, 493, 517, 529, 530, 567, 636, 640, 571, 583, 584, 635, 588, 603, 613, 616, 620, 607, 592, 599, 610, 596, 600, 501, 502, 624, 630, 505] : List Nat).filterMap (fun i => lw_tbl[i]?) := by decide +kernel
set_option maxRecDepth 1000000 in
theorem rb_wM_p1 : rb_wM.getD 1 [] = ([61, 65, 153, 423, 394, 424, 377, 378, 398, 521, 525, 534, 538, 542, 546, 554, 562, 575, 579] : List Nat).filterMap (fun i => lw_tbl[i]?) := by decide +kernel
set_option maxRecDepth 1000000 in
theorem rb_wM_p2 : rb_wM.getD 2 [] = ([68, 550] : List Nat).filterMap (fun i => lw_tbl[i]?) := by decide +kernel
set_option maxRecDepth 1000000 in
theorem rb_wM_p3 : rb_wM.getD 3 [] = ([75] : List Nat).filterMap (fun i => lw_tbl[i]?) := by decide +kernel
set_option maxRecDepth 1000000 in
theorem rb_wM_p4 : rb_wM.getD 4 [] = ([156, 558, 566] : List Nat).filterMap (fun i => lw_tbl[i]?) := by decide +kernel
set_option maxRecDepth 1000000 in
theorem rb_wM_p5 : rb_wM.getD 5 [] = ([245, 248, 452, 628, 629, 634] : List Nat).filterMap (fun i => lw_tbl[i]?) := by decide +kernel
set_option maxRecDepth 1000000 in
theorem rb_wM_p6 : rb_wM.getD 6 [] = ([251, 476] : List Nat).filterMap (fun i => lw_tbl[i]?) := by decide +kernel
set_option maxRecDepth 1000000 in
theorem rb_wM_p7 : rb_wM.getD 7 [] = ([685, 942, 873, 892, 869, 876, 865, 884, 888, 900, 904, 861, 880, 896, 908, 911, 915, 919, 927, 923, 857, 931, 939, 945, 949, 961, 989] : List Nat).filterMap (fun i => lw_tbl[i]?) := by decide +kernel
theorem rb_wM_in {w : Jvm.Cond} (h : w ∈ rb_wM.flatten) : w ∈ lw_tbl := by
  obtain ⟨l, hl, hw⟩ := List.mem_flatten.mp h
  obtain ⟨c, hc⟩ := List.getElem?_of_mem hl
  have e9 : rb_wM.getD c [] = l := by rw [List.getD_eq_getElem?_getD, hc]; rfl
  rw [← e9] at hw
  match c, hc, hw with
  | 0, hc, hw => exact rb_posin _ rb_wM_p0 hw
  | 1, hc, hw => exact rb_posin _ rb_wM_p1 hw
  | 2, hc, hw => exact rb_posin _ rb_wM_p2 hw
  | 3, hc, hw => exact rb_posin _ rb_wM_p3 hw
  | 4, hc, hw => exact rb_posin _ rb_wM_p4 hw
  | 5, hc, hw => exact rb_posin _ rb_wM_p5 hw
  | 6, hc, hw => exact rb_posin _ rb_wM_p6 hw
  | 7, hc, hw => exact rb_posin _ rb_wM_p7 hw
  | n + 8, hc, hw => cases hc
set_option maxRecDepth 1000000 in
theorem rb_wV_p0 : rb_wV.getD 0 [] = ([356, 0, 359, 367, 1, 404, 2, 438, 4, 408, 3, 462, 5, 491, 6, 499, 515, 7, 650, 16, 569, 9, 586, 10, 590, 11, 605, 13, 614, 618, 14, 622, 15, 608, 594, 12, 611, 597, 601, 503] : List Nat).filterMap (fun i => lw_tbl[i]?) := by decide +kernel
set_option maxRecDepth 1000000 in
theorem rb_wV_p1 : rb_wV.getD 1 [] = ([59, 362, 363, 374, 375, 370, 371, 391, 392, 399, 400, 420, 421, 395, 396, 518, 519, 522, 523, 531, 532, 637, 638, 641, 642, 572, 573, 526, 527] : List Nat).filterMap (fun i => lw_tbl[i]?) := by decide +kernel
set_option maxRecDepth 1000000 in
theorem rb_wV_p2 : rb_wV.getD 2 [] = ([495, 496, 425, 426, 66, 379, 380, 535, 536, 539, 540, 543, 544, 547, 548, 576, 577] : List Nat).filterMap (fun i => lw_tbl[i]?) := by decide +kernel
set_option maxRecDepth 1000000 in
theorem rb_wV_p3 : rb_wV.getD 3 [] = ([429, 430, 551, 552, 506, 507, 73] : List Nat).filterMap (fun i => lw_tbl[i]?) := by decide +kernel
set_option maxRecDepth 1000000 in
theorem rb_wV_p4 : rb_wV.getD 4 [] = ([657, 658, 563, 564, 154, 555, 556, 580, 581, 560, 8] : List Nat).filterMap (fun i => lw_tbl[i]?) := by decide +kernel
set_option maxRecDepth 1000000 in
theorem rb_wV_p5 : rb_wV.getD 5 [] = ([243, 449, 450, 645, 646, 625, 626, 631, 632] : List Nat).filterMap (fun i => lw_tbl[i]?) := by decide +kernel
set_option maxRecDepth 1000000 in
theorem rb_wV_p6 : rb_wV.getD 6 [] = ([469, 470, 473, 474, 482, 483, 486, 487, 249, 453, 454] : List Nat).filterMap (fun i => lw_tbl[i]?) := by decide +kernel
set_option maxRecDepth 1000000 in
theorem rb_wV_p7 : rb_wV.getD 7 [] = ([943, 874, 894, 25, 871, 20, 878, 21, 867, 19, 886, 23, 890, 24, 902, 27, 906, 28, 863, 18, 882, 22, 898, 26, 909, 913, 29, 917, 30, 921, 31, 929, 33, 925, 32, 859, 17, 933, 34, 940, 947, 35, 951, 36, 963, 37, 990] : List Nat).filterMap (fun i => lw_tbl[i]?) := by decide +kernel
theorem rb_wV_in {w : Jvm.Cond} (h : w ∈ rb_wV.flatten) : w ∈ lw_tbl := by
  obtain ⟨l, hl, hw⟩ := List.mem_flatten.mp h
  obtain ⟨c, hc⟩ := List.getElem?_of_mem hl
  have e9 : rb_wV.getD c [] = l := by rw [List.getD_eq_getElem?_getD, hc]; rfl
  rw [← e9] at hw
  match c, hc, hw with
  | 0, hc, hw => exact rb_posin _ rb_wV_p0 hw
  | 1, hc, hw => exact rb_posin _ rb_wV_p1 hw
  | 2, hc, hw => exact rb_posin _ rb_wV_p2 hw
  | 3, hc, hw => exact rb_posin _ rb_wV_p3 hw
  | 4, hc, hw => exact rb_posin _ rb_wV_p4 hw
  | 5, hc, hw => exact rb_posin _ rb_wV_p5 hw
  | 6, hc, hw => exact rb_posin _ rb_wV_p6 hw
  | 7, hc, hw => exact rb_posin _ rb_wV_p7 hw
  | n + 8, hc, hw => cases hc
set_option maxRecDepth 1000000 in
theorem rb_wO_p : rb_wO = ([39, 40, 41, 42, 43, 44, 45, 46, 55, 57, 239, 241, 335, 150, 852, 246, 247, 69, 71, 62, 64, 151, 152, 157] : List Nat).filterMap (fun i => lw_tbl[i]?) := by decide +kernel
set_option maxRecDepth 1000000 in
theorem rb_wL_p : rb_wL = ([341, 343, 345, 347, 218, 220, 222, 224, 226, 228, 230, 232, 234, 236, 135, 137, 139, 141, 143, 145, 147, 98, 100, 102, 104, 106, 108, 110, 112, 114, 116, 118, 183, 185, 187, 189, 191, 193, 195, 197, 300, 302, 304, 306, 308, 310, 312, 314, 316, 318, 320, 322, 324, 326, 328, 330, 332, 257, 259, 261, 263, 741, 743, 745, 747, 749, 751, 753, 755, 757, 759, 761, 763, 765, 767, 769, 771, 773, 775, 777, 779, 781, 783, 785, 787, 789, 791, 793, 795, 797, 799, 801, 803, 805, 807, 809, 811, 813, 815, 817, 819, 821, 823, 825, 827, 829, 831, 833, 835, 837, 839, 841, 843, 845, 847, 849] : List Nat).filterMap (fun i => lw_tbl[i]?) := by decide +kernel
set_option maxRecDepth 1000000 in
theorem rb_wX_p : rb_wX = ([53, 54] : List Nat).filterMap (fun i => lw_tbl[i]?) := by decide +kernel
end
section
/-! the code of each method is among the words of the start -/
set_option maxRecDepth 1000000 in
theorem rb_wC_p0 : lw_tbl[51]? = some (.code (rb_y 0) (rb_b 0) (rb_ml 0) (rb_rt 0)) := rfl
set_option maxRecDepth 1000000 in
theorem rb_wC_p1 : lw_tbl[353]? = some (.code (rb_y 1) (rb_b 1) (rb_ml 1) (rb_rt 1)) := rfl
set_option maxRecDepth 1000000 in
theorem rb_wC_p2 : lw_tbl[385]? = some (.code (rb_y 2) (rb_b 2) (rb_ml 2) (rb_rt 2)) := rfl
set_option maxRecDepth 1000000 in
theorem rb_wC_p3 : lw_tbl[389]? = some (.code (rb_y 3) (rb_b 3) (rb_ml 3) (rb_rt 3)) := rfl
set_option maxRecDepth 1000000 in
theorem rb_wC_p4 : lw_tbl[413]? = some (.code (rb_y 4) (rb_b 4) (rb_ml 4) (rb_rt 4)) := rfl
set_option maxRecDepth 1000000 in
theorem rb_wC_p5 : lw_tbl[418]? = some (.code (rb_y 5) (rb_b 5) (rb_ml 5) (rb_rt 5)) := rfl
set_option maxRecDepth 1000000 in
theorem rb_wC_p6 : lw_tbl[435]? = some (.code (rb_y 6) (rb_b 6) (rb_ml 6) (rb_rt 6)) := rfl
set_option maxRecDepth 1000000 in
theorem rb_wC_p7 : lw_tbl[443]? = some (.code (rb_y 7) (rb_b 7) (rb_ml 7) (rb_rt 7)) := rfl
set_option maxRecDepth 1000000 in
theorem rb_wC_p8 : lw_tbl[447]? = some (.code (rb_y 8) (rb_b 8) (rb_ml 8) (rb_rt 8)) := rfl
set_option maxRecDepth 1000000 in
theorem rb_wC_p9 : lw_tbl[459]? = some (.code (rb_y 9) (rb_b 9) (rb_ml 9) (rb_rt 9)) := rfl
set_option maxRecDepth 1000000 in
theorem rb_wC_p10 : lw_tbl[467]? = some (.code (rb_y 10) (rb_b 10) (rb_ml 10) (rb_rt 10)) := rfl
set_option maxRecDepth 1000000 in
theorem rb_wC_p11 : lw_tbl[480]? = some (.code (rb_y 11) (rb_b 11) (rb_ml 11) (rb_rt 11)) := rfl
set_option maxRecDepth 1000000 in
theorem rb_wC_p12 : lw_tbl[512]? = some (.code (rb_y 12) (rb_b 12) (rb_ml 12) (rb_rt 12)) := rfl
set_option maxRecDepth 1000000 in
theorem rb_wC_p13 : lw_tbl[655]? = some (.code (rb_y 13) (rb_b 13) (rb_ml 13) (rb_rt 13)) := rfl
set_option maxRecDepth 1000000 in
theorem rb_wC_p14 : lw_tbl[663]? = some (.code (rb_y 14) (rb_b 14) (rb_ml 14) (rb_rt 14)) := rfl
set_option maxRecDepth 1000000 in
theorem rb_wC_p15 : lw_tbl[667]? = some (.code (rb_y 15) (rb_b 15) (rb_ml 15) (rb_rt 15)) := rfl
set_option maxRecDepth 1000000 in
theorem rb_wC_p16 : lw_tbl[671]? = some (.code (rb_y 16) (rb_b 16) (rb_ml 16) (rb_rt 16)) := rfl
set_option maxRecDepth 1000000 in
theorem rb_wC_p17 : lw_tbl[675]? = some (.code (rb_y 17) (rb_b 17) (rb_ml 17) (rb_rt 17)) := rfl
set_option maxRecDepth 1000000 in
theorem rb_wC_p18 : lw_tbl[679]? = some (.code (rb_y 18) (rb_b 18) (rb_ml 18) (rb_rt 18)) := rfl
set_option maxRecDepth 1000000 in
theorem rb_wC_p19 : lw_tbl[360]? = some (.code (rb_y 19) (rb_b 19) (rb_ml 19) (rb_rt 19)) := rfl
set_option maxRecDepth 1000000 in
theorem rb_wC_p20 : lw_tbl[357]? = some (.code (rb_y 20) (rb_b 20) (rb_ml 20) (rb_rt 20)) := rfl
set_option maxRecDepth 1000000 in
theorem rb_wC_p21 : lw_tbl[463]? = some (.code (rb_y 21) (rb_b 21) (rb_ml 21) (rb_rt 21)) := rfl
set_option maxRecDepth 1000000 in
theorem rb_wC_p22 : lw_tbl[368]? = some (.code (rb_y 22) (rb_b 22) (rb_ml 22) (rb_rt 22)) := rfl
set_option maxRecDepth 1000000 in
theorem rb_wC_p23 : lw_tbl[492]? = some (.code (rb_y 23) (rb_b 23) (rb_ml 23) (rb_rt 23)) := rfl
set_option maxRecDepth 1000000 in
theorem rb_wC_p24 : lw_tbl[595]? = some (.code (rb_y 24) (rb_b 24) (rb_ml 24) (rb_rt 24)) := rfl
set_option maxRecDepth 1000000 in
theorem rb_wC_p25 : lw_tbl[439]? = some (.code (rb_y 25) (rb_b 25) (rb_ml 25) (rb_rt 25)) := rfl
set_option maxRecDepth 1000000 in
theorem rb_wC_p26 : lw_tbl[409]? = some (.code (rb_y 26) (rb_b 26) (rb_ml 26) (rb_rt 26)) := rfl
set_option maxRecDepth 1000000 in
theorem rb_wC_p27 : lw_tbl[405]? = some (.code (rb_y 27) (rb_b 27) (rb_ml 27) (rb_rt 27)) := rfl
set_option maxRecDepth 1000000 in
theorem rb_wC_p28 : lw_tbl[516]? = some (.code (rb_y 28) (rb_b 28) (rb_ml 28) (rb_rt 28)) := rfl
set_option maxRecDepth 1000000 in
theorem rb_wC_p29 : lw_tbl[570]? = some (.code (rb_y 29) (rb_b 29) (rb_ml 29) (rb_rt 29)) := rfl
set_option maxRecDepth 1000000 in
theorem rb_wC_p30 : lw_tbl[587]? = some (.code (rb_y 30) (rb_b 30) (rb_ml 30) (rb_rt 30)) := rfl
set_option maxRecDepth 1000000 in
theorem rb_wC_p31 : lw_tbl[606]? = some (.code (rb_y 31) (rb_b 31) (rb_ml 31) (rb_rt 31)) := rfl
set_option maxRecDepth 1000000 in
theorem rb_wC_p32 : lw_tbl[591]? = some (.code (rb_y 32) (rb_b 32) (rb_ml 32) (rb_rt 32)) := rfl
set_option maxRecDepth 1000000 in
theorem rb_wC_p33 : lw_tbl[615]? = some (.code (rb_y 33) (rb_b 33) (rb_ml 33) (rb_rt 33)) := rfl
set_option maxRecDepth 1000000 in
theorem rb_wC_p34 : lw_tbl[619]? = some (.code (rb_y 34) (rb_b 34) (rb_ml 34) (rb_rt 34)) := rfl
set_option maxRecDepth 1000000 in
theorem rb_wC_p35 : lw_tbl[623]? = some (.code (rb_y 35) (rb_b 35) (rb_ml 35) (rb_rt 35)) := rfl
set_option maxRecDepth 1000000 in
theorem rb_wC_p36 : lw_tbl[500]? = some (.code (rb_y 36) (rb_b 36) (rb_ml 36) (rb_rt 36)) := rfl
set_option maxRecDepth 1000000 in
theorem rb_wC_p37 : lw_tbl[651]? = some (.code (rb_y 37) (rb_b 37) (rb_ml 37) (rb_rt 37)) := rfl
set_option maxRecDepth 1000000 in
theorem rb_wC_p38 : lw_tbl[609]? = some (.code (rb_y 38) (rb_b 38) (rb_ml 38) (rb_rt 38)) := rfl
set_option maxRecDepth 1000000 in
theorem rb_wC_p39 : lw_tbl[612]? = some (.code (rb_y 39) (rb_b 39) (rb_ml 39) (rb_rt 39)) := rfl
set_option maxRecDepth 1000000 in
theorem rb_wC_p40 : lw_tbl[598]? = some (.code (rb_y 40) (rb_b 40) (rb_ml 40) (rb_rt 40)) := rfl
set_option maxRecDepth 1000000 in
theorem rb_wC_p41 : lw_tbl[602]? = some (.code (rb_y 41) (rb_b 41) (rb_ml 41) (rb_rt 41)) := rfl
set_option maxRecDepth 1000000 in
theorem rb_wC_p42 : lw_tbl[504]? = some (.code (rb_y 42) (rb_b 42) (rb_ml 42) (rb_rt 42)) := rfl
set_option maxRecDepth 1000000 in
theorem rb_wC_p43 : lw_tbl[684]? = some (.code (rb_y 43) (rb_b 43) (rb_ml 43) (rb_rt 43)) := rfl
set_option maxRecDepth 1000000 in
theorem rb_wC_p44 : lw_tbl[875]? = some (.code (rb_y 44) (rb_b 44) (rb_ml 44) (rb_rt 44)) := rfl
set_option maxRecDepth 1000000 in
theorem rb_wC_p45 : lw_tbl[941]? = some (.code (rb_y 45) (rb_b 45) (rb_ml 45) (rb_rt 45)) := rfl
set_option maxRecDepth 1000000 in
theorem rb_wC_p46 : lw_tbl[944]? = some (.code (rb_y 46) (rb_b 46) (rb_ml 46) (rb_rt 46)) := rfl
set_option maxRecDepth 1000000 in
theorem rb_wC_p47 : lw_tbl[948]? = some (.code (rb_y 47) (rb_b 47) (rb_ml 47) (rb_rt 47)) := rfl
set_option maxRecDepth 1000000 in
theorem rb_wC_p48 : lw_tbl[864]? = some (.code (rb_y 48) (rb_b 48) (rb_ml 48) (rb_rt 48)) := rfl
set_option maxRecDepth 1000000 in
theorem rb_wC_p49 : lw_tbl[872]? = some (.code (rb_y 49) (rb_b 49) (rb_ml 49) (rb_rt 49)) := rfl
set_option maxRecDepth 1000000 in
theorem rb_wC_p50 : lw_tbl[879]? = some (.code (rb_y 50) (rb_b 50) (rb_ml 50) (rb_rt 50)) := rfl
set_option maxRecDepth 1000000 in
theorem rb_wC_p51 : lw_tbl[952]? = some (.code (rb_y 51) (rb_b 51) (rb_ml 51) (rb_rt 51)) := rfl
set_option maxRecDepth 1000000 in
theorem rb_wC_p52 : lw_tbl[910]? = some (.code (rb_y 52) (rb_b 52) (rb_ml 52) (rb_rt 52)) := rfl
set_option maxRecDepth 1000000 in
theorem rb_wC_p53 : lw_tbl[895]? = some (.code (rb_y 53) (rb_b 53) (rb_ml 53) (rb_rt 53)) := rfl
set_option maxRecDepth 1000000 in
theorem rb_wC_p54 : lw_tbl[914]? = some (.code (rb_y 54) (rb_b 54) (rb_ml 54) (rb_rt 54)) := rfl
set_option maxRecDepth 1000000 in
theorem rb_wC_p55 : lw_tbl[918]? = some (.code (rb_y 55) (rb_b 55) (rb_ml 55) (rb_rt 55)) := rfl
set_option maxRecDepth 1000000 in
theorem rb_wC_p56 : lw_tbl[891]? = some (.code (rb_y 56) (rb_b 56) (rb_ml 56) (rb_rt 56)) := rfl
set_option maxRecDepth 1000000 in
theorem rb_wC_p57 : lw_tbl[868]? = some (.code (rb_y 57) (rb_b 57) (rb_ml 57) (rb_rt 57)) := rfl
set_option maxRecDepth 1000000 in
theorem rb_wC_p58 : lw_tbl[903]? = some (.code (rb_y 58) (rb_b 58) (rb_ml 58) (rb_rt 58)) := rfl
set_option maxRecDepth 1000000 in
theorem rb_wC_p59 : lw_tbl[887]? = some (.code (rb_y 59) (rb_b 59) (rb_ml 59) (rb_rt 59)) := rfl
set_option maxRecDepth 1000000 in
theorem rb_wC_p60 : lw_tbl[883]? = some (.code (rb_y 60) (rb_b 60) (rb_ml 60) (rb_rt 60)) := rfl
set_option maxRecDepth 1000000 in
theorem rb_wC_p61 : lw_tbl[899]? = some (.code (rb_y 61) (rb_b 61) (rb_ml 61) (rb_rt 61)) := rfl
set_option maxRecDepth 1000000 in
theorem rb_wC_p62 : lw_tbl[860]? = some (.code (rb_y 62) (rb_b 62) (rb_ml 62) (rb_rt 62)) := rfl
set_option maxRecDepth 1000000 in
theorem rb_wC_p63 : lw_tbl[907]? = some (.code (rb_y 63) (rb_b 63) (rb_ml 63) (rb_rt 63)) := rfl
set_option maxRecDepth 1000000 in
theorem rb_wC_p64 : lw_tbl[926]? = some (.code (rb_y 64) (rb_b 64) (rb_ml 64) (rb_rt 64)) := rfl
set_option maxRecDepth 1000000 in
theorem rb_wC_p65 : lw_tbl[922]? = some (.code (rb_y 65) (rb_b 65) (rb_ml 65) (rb_rt 65)) := rfl
set_option maxRecDepth 1000000 in
theorem rb_wC_p66 : lw_tbl[930]? = some (.code (rb_y 66) (rb_b 66) (rb_ml 66) (rb_rt 66)) := rfl
set_option maxRecDepth 1000000 in
theorem rb_wC_p67 : lw_tbl[934]? = some (.code (rb_y 67) (rb_b 67) (rb_ml 67) (rb_rt 67)) := rfl
set_option maxRecDepth 1000000 in
theorem rb_wC_p68 : lw_tbl[856]? = some (.code (rb_y 68) (rb_b 68) (rb_ml 68) (rb_rt 68)) := rfl
set_option maxRecDepth 1000000 in
theorem rb_wC_p69 : lw_tbl[938]? = some (.code (rb_y 69) (rb_b 69) (rb_ml 69) (rb_rt 69)) := rfl
set_option maxRecDepth 1000000 in
theorem rb_wC_p70 : lw_tbl[956]? = some (.code (rb_y 70) (rb_b 70) (rb_ml 70) (rb_rt 70)) := rfl
set_option maxRecDepth 1000000 in
theorem rb_wC_p71 : lw_tbl[964]? = some (.code (rb_y 71) (rb_b 71) (rb_ml 71) (rb_rt 71)) := rfl
set_option maxRecDepth 1000000 in
theorem rb_wC_p72 : lw_tbl[960]? = some (.code (rb_y 72) (rb_b 72) (rb_ml 72) (rb_rt 72)) := rfl
set_option maxRecDepth 1000000 in
theorem rb_wC_p73 : lw_tbl[968]? = some (.code (rb_y 73) (rb_b 73) (rb_ml 73) (rb_rt 73)) := rfl
set_option maxRecDepth 1000000 in
theorem rb_wC_p74 : lw_tbl[972]? = some (.code (rb_y 74) (rb_b 74) (rb_ml 74) (rb_rt 74)) := rfl
set_option maxRecDepth 1000000 in
theorem rb_wC_p75 : lw_tbl[976]? = some (.code (rb_y 75) (rb_b 75) (rb_ml 75) (rb_rt 75)) := rfl
set_option maxRecDepth 1000000 in
theorem rb_wC_p76 : lw_tbl[980]? = some (.code (rb_y 76) (rb_b 76) (rb_ml 76) (rb_rt 76)) := rfl
set_option maxRecDepth 1000000 in
theorem rb_wC_p77 : lw_tbl[984]? = some (.code (rb_y 77) (rb_b 77) (rb_ml 77) (rb_rt 77)) := rfl
set_option maxRecDepth 1000000 in
theorem rb_wC_p78 : lw_tbl[991]? = some (.code (rb_y 78) (rb_b 78) (rb_ml 78) (rb_rt 78)) := rfl
set_option maxRecDepth 1000000 in
theorem rb_wC_p79 : lw_tbl[988]? = some (.code (rb_y 79) (rb_b 79) (rb_ml 79) (rb_rt 79)) := rfl
set_option maxRecDepth 1000000 in
theorem rb_wC_p80 : lw_tbl[995]? = some (.code (rb_y 80) (rb_b 80) (rb_ml 80) (rb_rt 80)) := rfl
set_option maxRecDepth 1000000 in
theorem rb_wC_p81 : lw_tbl[999]? = some (.code (rb_y 81) (rb_b 81) (rb_ml 81) (rb_rt 81)) := rfl
set_option maxRecDepth 1000000 in
theorem rb_wC_p82 : lw_tbl[1003]? = some (.code (rb_y 82) (rb_b 82) (rb_ml 82) (rb_rt 82)) := rfl
set_option maxRecDepth 1000000 in
theorem rb_wC_p83 : lw_tbl[1007]? = some (.code (rb_y 83) (rb_b 83) (rb_ml 83) (rb_rt 83)) := rfl
set_option maxRecDepth 1000000 in
theorem rb_wC_p84 : lw_tbl[1011]? = some (.code (rb_y 84) (rb_b 84) (rb_ml 84) (rb_rt 84)) := rfl
set_option maxRecDepth 1000000 in
theorem rb_wC_p85 : lw_tbl[1015]? = some (.code (rb_y 85) (rb_b 85) (rb_ml 85) (rb_rt 85)) := rfl
set_option maxRecDepth 1000000 in
theorem rb_wC_p86 : lw_tbl[1019]? = some (.code (rb_y 86) (rb_b 86) (rb_ml 86) (rb_rt 86)) := rfl
set_option maxRecDepth 1000000 in
theorem rb_wC_p87 : lw_tbl[1023]? = some (.code (rb_y 87) (rb_b 87) (rb_ml 87) (rb_rt 87)) := rfl
set_option maxRecDepth 1000000 in
theorem rb_wC_p88 : lw_tbl[250]? = some (.code (rb_y 88) (rb_b 88) (rb_ml 88) (rb_rt 88)) := rfl
set_option maxRecDepth 1000000 in
theorem rb_wC_p89 : lw_tbl[455]? = some (.code (rb_y 89) (rb_b 89) (rb_ml 89) (rb_rt 89)) := rfl
set_option maxRecDepth 1000000 in
theorem rb_wC_p90 : lw_tbl[471]? = some (.code (rb_y 90) (rb_b 90) (rb_ml 90) (rb_rt 90)) := rfl
set_option maxRecDepth 1000000 in
theorem rb_wC_p91 : lw_tbl[475]? = some (.code (rb_y 91) (rb_b 91) (rb_ml 91) (rb_rt 91)) := rfl
set_option maxRecDepth 1000000 in
theorem rb_wC_p92 : lw_tbl[484]? = some (.code (rb_y 92) (rb_b 92) (rb_ml 92) (rb_rt 92)) := rfl
set_option maxRecDepth 1000000 in
theorem rb_wC_p93 : lw_tbl[488]? = some (.code (rb_y 93) (rb_b 93) (rb_ml 93) (rb_rt 93)) := rfl
set_option maxRecDepth 1000000 in
theorem rb_wC_p94 : lw_tbl[74]? = some (.code (rb_y 94) (rb_b 94) (rb_ml 94) (rb_rt 94)) := rfl
set_option maxRecDepth 1000000 in
theorem rb_wC_p95 : lw_tbl[431]? = some (.code (rb_y 95) (rb_b 95) (rb_ml 95) (rb_rt 95)) := rfl
set_option maxRecDepth 1000000 in
theorem rb_wC_p96 : lw_tbl[508]? = some (.code (rb_y 96) (rb_b 96) (rb_ml 96) (rb_rt 96)) := rfl
set_option maxRecDepth 1000000 in
theorem rb_wC_p97 : lw_tbl[553]? = some (.code (rb_y 97) (rb_b 97) (rb_ml 97) (rb_rt 97)) := rfl
set_option maxRecDepth 1000000 in
theorem rb_wC_p98 : lw_tbl[244]? = some (.code (rb_y 98) (rb_b 98) (rb_ml 98) (rb_rt 98)) := rfl
set_option maxRecDepth 1000000 in
theorem rb_wC_p99 : lw_tbl[451]? = some (.code (rb_y 99) (rb_b 99) (rb_ml 99) (rb_rt 99)) := rfl
set_option maxRecDepth 1000000 in
theorem rb_wC_p100 : lw_tbl[627]? = some (.code (rb_y 100) (rb_b 100) (rb_ml 100) (rb_rt 100)) := rfl
set_option maxRecDepth 1000000 in
theorem rb_wC_p101 : lw_tbl[633]? = some (.code (rb_y 101) (rb_b 101) (rb_ml 101) (rb_rt 101)) := rfl
set_option maxRecDepth 1000000 in
theorem rb_wC_p102 : lw_tbl[647]? = some (.code (rb_y 102) (rb_b 102) (rb_ml 102) (rb_rt 102)) := rfl
set_option maxRecDepth 1000000 in
theorem rb_wC_p103 : lw_tbl[67]? = some (.code (rb_y 103) (rb_b 103) (rb_ml 103) (rb_rt 103)) := rfl
set_option maxRecDepth 1000000 in
theorem rb_wC_p104 : lw_tbl[381]? = some (.code (rb_y 104) (rb_b 104) (rb_ml 104) (rb_rt 104)) := rfl
set_option maxRecDepth 1000000 in
theorem rb_wC_p105 : lw_tbl[497]? = some (.code (rb_y 105) (rb_b 105) (rb_ml 105) (rb_rt 105)) := rfl
set_option maxRecDepth 1000000 in
theorem rb_wC_p106 : lw_tbl[427]? = some (.code (rb_y 106) (rb_b 106) (rb_ml 106) (rb_rt 106)) := rfl
set_option maxRecDepth 1000000 in
theorem rb_wC_p107 : lw_tbl[545]? = some (.code (rb_y 107) (rb_b 107) (rb_ml 107) (rb_rt 107)) := rfl
set_option maxRecDepth 1000000 in
theorem rb_wC_p108 : lw_tbl[549]? = some (.code (rb_y 108) (rb_b 108) (rb_ml 108) (rb_rt 108)) := rfl
set_option maxRecDepth 1000000 in
theorem rb_wC_p109 : lw_tbl[578]? = some (.code (rb_y 109) (rb_b 109) (rb_ml 109) (rb_rt 109)) := rfl
set_option maxRecDepth 1000000 in
theorem rb_wC_p110 : lw_tbl[537]? = some (.code (rb_y 110) (rb_b 110) (rb_ml 110) (rb_rt 110)) := rfl
set_option maxRecDepth 1000000 in
theorem rb_wC_p111 : lw_tbl[541]? = some (.code (rb_y 111) (rb_b 111) (rb_ml 111) (rb_rt 111)) := rfl
set_option maxRecDepth 1000000 in
theorem rb_wC_p112 : lw_tbl[60]? = some (.code (rb_y 112) (rb_b 112) (rb_ml 112) (rb_rt 112)) := rfl
set_option maxRecDepth 1000000 in
theorem rb_wC_p113 : lw_tbl[364]? = some (.code (rb_y 113) (rb_b 113) (rb_ml 113) (rb_rt 113)) := rfl
set_option maxRecDepth 1000000 in
theorem rb_wC_p114 : lw_tbl[372]? = some (.code (rb_y 114) (rb_b 114) (rb_ml 114) (rb_rt 114)) := rfl
set_option maxRecDepth 1000000 in
theorem rb_wC_p115 : lw_tbl[397]? = some (.code (rb_y 115) (rb_b 115) (rb_ml 115) (rb_rt 115)) := rfl
set_option maxRecDepth 1000000 in
theorem rb_wC_p116 : lw_tbl[524]? = some (.code (rb_y 116) (rb_b 116) (rb_ml 116) (rb_rt 116)) := rfl
set_option maxRecDepth 1000000 in
theorem rb_wC_p117 : lw_tbl[422]? = some (.code (rb_y 117) (rb_b 117) (rb_ml 117) (rb_rt 117)) := rfl
set_option maxRecDepth 1000000 in
theorem rb_wC_p118 : lw_tbl[376]? = some (.code (rb_y 118) (rb_b 118) (rb_ml 118) (rb_rt 118)) := rfl
set_option maxRecDepth 1000000 in
theorem rb_wC_p119 : lw_tbl[393]? = some (.code (rb_y 119) (rb_b 119) (rb_ml 119) (rb_rt 119)) := rfl
set_option maxRecDepth 1000000 in
theorem rb_wC_p120 : lw_tbl[401]? = some (.code (rb_y 120) (rb_b 120) (rb_ml 120) (rb_rt 120)) := rfl
set_option maxRecDepth 1000000 in
theorem rb_wC_p121 : lw_tbl[520]? = some (.code (rb_y 121) (rb_b 121) (rb_ml 121) (rb_rt 121)) := rfl
set_option maxRecDepth 1000000 in
theorem rb_wC_p122 : lw_tbl[528]? = some (.code (rb_y 122) (rb_b 122) (rb_ml 122) (rb_rt 122)) := rfl
set_option maxRecDepth 1000000 in
theorem rb_wC_p123 : lw_tbl[533]? = some (.code (rb_y 123) (rb_b 123) (rb_ml 123) (rb_rt 123)) := rfl
set_option maxRecDepth 1000000 in
theorem rb_wC_p124 : lw_tbl[574]? = some (.code (rb_y 124) (rb_b 124) (rb_ml 124) (rb_rt 124)) := rfl
set_option maxRecDepth 1000000 in
theorem rb_wC_p125 : lw_tbl[639]? = some (.code (rb_y 125) (rb_b 125) (rb_ml 125) (rb_rt 125)) := rfl
set_option maxRecDepth 1000000 in
theorem rb_wC_p126 : lw_tbl[643]? = some (.code (rb_y 126) (rb_b 126) (rb_ml 126) (rb_rt 126)) := rfl
set_option maxRecDepth 1000000 in
theorem rb_wC_p127 : lw_tbl[155]? = some (.code (rb_y 127) (rb_b 127) (rb_ml 127) (rb_rt 127)) := rfl
set_option maxRecDepth 1000000 in
theorem rb_wC_p128 : lw_tbl[582]? = some (.code (rb_y 128) (rb_b 128) (rb_ml 128) (rb_rt 128)) := rfl
set_option maxRecDepth 1000000 in
theorem rb_wC_p129 : lw_tbl[557]? = some (.code (rb_y 129) (rb_b 129) (rb_ml 129) (rb_rt 129)) := rfl
set_option maxRecDepth 1000000 in
theorem rb_wC_p130 : lw_tbl[561]? = some (.code (rb_y 130) (rb_b 130) (rb_ml 130) (rb_rt 130)) := rfl
set_option maxRecDepth 1000000 in
theorem rb_wC_p131 : lw_tbl[565]? = some (.code (rb_y 131) (rb_b 131) (rb_ml 131) (rb_rt 131)) := rfl
set_option maxRecDepth 1000000 in
theorem rb_wC_p132 : lw_tbl[659]? = some (.code (rb_y 132) (rb_b 132) (rb_ml 132) (rb_rt 132)) := rfl
theorem rb_wC_in {w : Jvm.Cond} (h : w ∈ rb_wC) : w ∈ lw_tbl := by
  obtain ⟨k, hk, rfl⟩ := List.mem_map.mp h
  have hk : k < 133 := List.mem_range.mp hk
  match k, hk with
  | 0, _ => exact List.mem_of_getElem? rb_wC_p0
  | 1, _ => exact List.mem_of_getElem? rb_wC_p1
  | 2, _ => exact List.mem_of_getElem? rb_wC_p2
  | 3, _ => exact List.mem_of_getElem? rb_wC_p3
  | 4, _ => exact List.mem_of_getElem? rb_wC_p4
  | 5, _ => exact List.mem_of_getElem? rb_wC_p5
  | 6, _ => exact List.mem_of_getElem? rb_wC_p6
  | 7, _ => exact List.mem_of_getElem? rb_wC_p7
  | 8, _ => exact List.mem_of_getElem? rb_wC_p8
  | 9, _ => exact List.mem_of_getElem? rb_wC_p9
  | 10, _ => exact List.mem_of_getElem? rb_wC_p10
  | 11, _ => exact List.mem_of_getElem? rb_wC_p11
  | 12, _ => exact List.mem_of_getElem? rb_wC_p12
  | 13, _ => exact List.mem_of_getElem? rb_wC_p13
  | 14, _ => exact List.mem_of_getElem? rb_wC_p14
  | 15, _ => exact List.mem_of_getElem? rb_wC_p15
  | 16, _ => exact List.mem_of_getElem? rb_wC_p16
  | 17, _ => exact List.mem_of_getElem? rb_wC_p17
  | 18, _ => exact List.mem_of_getElem? rb_wC_p18
  | 19, _ => exact List.mem_of_getElem? rb_wC_p19
  | 20, _ => exact List.mem_of_getElem? rb_wC_p20
  | 21, _ => exact List.mem_of_getElem? rb_wC_p21
  | 22, _ => exact List.mem_of_getElem? rb_wC_p22
  | 23, _ => exact List.mem_of_getElem? rb_wC_p23
  | 24, _ => exact List.mem_of_getElem? rb_wC_p24
  | 25, _ => exact List.mem_of_getElem? rb_wC_p25
  | 26, _ => exact List.mem_of_getElem? rb_wC_p26
  | 27, _ => exact List.mem_of_getElem? rb_wC_p27
  | 28, _ => exact List.mem_of_getElem? rb_wC_p28
  | 29, _ => exact List.mem_of_getElem? rb_wC_p29
  | 30, _ => exact List.mem_of_getElem? rb_wC_p30
  | 31, _ => exact List.mem_of_getElem? rb_wC_p31
  | 32, _ => exact List.mem_of_getElem? rb_wC_p32
  | 33, _ => exact List.mem_of_getElem? rb_wC_p33
  | 34, _ => exact List.mem_of_getElem? rb_wC_p34
  | 35, _ => exact List.mem_of_getElem? rb_wC_p35
  | 36, _ => exact List.mem_of_getElem? rb_wC_p36
  | 37, _ => exact List.mem_of_getElem? rb_wC_p37
  | 38, _ => exact List.mem_of_getElem? rb_wC_p38
  | 39, _ => exact List.mem_of_getElem? rb_wC_p39
  | 40, _ => exact List.mem_of_getElem? rb_wC_p40
  | 41, _ => exact List.mem_of_getElem? rb_wC_p41
  | 42, _ => exact List.mem_of_getElem? rb_wC_p42
  | 43, _ => exact List.mem_of_getElem? rb_wC_p43
  | 44, _ => exact List.mem_of_getElem? rb_wC_p44
  | 45, _ => exact List.mem_of_getElem? rb_wC_p45
  | 46, _ => exact List.mem_of_getElem? rb_wC_p46
  | 47, _ => exact List.mem_of_getElem? rb_wC_p47
  | 48, _ => exact List.mem_of_getElem? rb_wC_p48
  | 49, _ => exact List.mem_of_getElem? rb_wC_p49
  | 50, _ => exact List.mem_of_getElem? rb_wC_p50
  | 51, _ => exact List.mem_of_getElem? rb_wC_p51
  | 52, _ => exact List.mem_of_getElem? rb_wC_p52
  | 53, _ => exact List.mem_of_getElem? rb_wC_p53
  | 54, _ => exact List.mem_of_getElem? rb_wC_p54
  | 55, _ => exact List.mem_of_getElem? rb_wC_p55
  | 56, _ => exact List.mem_of_getElem? rb_wC_p56
  | 57, _ => exact List.mem_of_getElem? rb_wC_p57
  | 58, _ => exact List.mem_of_getElem? rb_wC_p58
  | 59, _ => exact List.mem_of_getElem? rb_wC_p59
  | 60, _ => exact List.mem_of_getElem? rb_wC_p60
  | 61, _ => exact List.mem_of_getElem? rb_wC_p61
  | 62, _ => exact List.mem_of_getElem? rb_wC_p62
  | 63, _ => exact List.mem_of_getElem? rb_wC_p63
  | 64, _ => exact List.mem_of_getElem? rb_wC_p64
  | 65, _ => exact List.mem_of_getElem? rb_wC_p65
  | 66, _ => exact List.mem_of_getElem? rb_wC_p66
  | 67, _ => exact List.mem_of_getElem? rb_wC_p67
  | 68, _ => exact List.mem_of_getElem? rb_wC_p68
  | 69, _ => exact List.mem_of_getElem? rb_wC_p69
  | 70, _ => exact List.mem_of_getElem? rb_wC_p70
  | 71, _ => exact List.mem_of_getElem? rb_wC_p71
  | 72, _ => exact List.mem_of_getElem? rb_wC_p72
  | 73, _ => exact List.mem_of_getElem? rb_wC_p73
  | 74, _ => exact List.mem_of_getElem? rb_wC_p74
  | 75, _ => exact List.mem_of_getElem? rb_wC_p75
  | 76, _ => exact List.mem_of_getElem? rb_wC_p76
  | 77, _ => exact List.mem_of_getElem? rb_wC_p77
  | 78, _ => exact List.mem_of_getElem? rb_wC_p78
  | 79, _ => exact List.mem_of_getElem? rb_wC_p79
  | 80, _ => exact List.mem_of_getElem? rb_wC_p80
  | 81, _ => exact List.mem_of_getElem? rb_wC_p81
  | 82, _ => exact List.mem_of_getElem? rb_wC_p82
  | 83, _ => exact List.mem_of_getElem? rb_wC_p83
  | 84, _ => exact List.mem_of_getElem? rb_wC_p84
  | 85, _ => exact List.mem_of_getElem? rb_wC_p85
  | 86, _ => exact List.mem_of_getElem? rb_wC_p86
  | 87, _ => exact List.mem_of_getElem? rb_wC_p87
  | 88, _ => exact List.mem_of_getElem? rb_wC_p88
  | 89, _ => exact List.mem_of_getElem? rb_wC_p89
  | 90, _ => exact List.mem_of_getElem? rb_wC_p90
  | 91, _ => exact List.mem_of_getElem? rb_wC_p91
  | 92, _ => exact List.mem_of_getElem? rb_wC_p92
  | 93, _ => exact List.mem_of_getElem? rb_wC_p93
  | 94, _ => exact List.mem_of_getElem? rb_wC_p94
  | 95, _ => exact List.mem_of_getElem? rb_wC_p95
  | 96, _ => exact List.mem_of_getElem? rb_wC_p96
  | 97, _ => exact List.mem_of_getElem? rb_wC_p97
  | 98, _ => exact List.mem_of_getElem? rb_wC_p98
  | 99, _ => exact List.mem_of_getElem? rb_wC_p99
  | 100, _ => exact List.mem_of_getElem? rb_wC_p100
  | 101, _ => exact List.mem_of_getElem? rb_wC_p101
  | 102, _ => exact List.mem_of_getElem? rb_wC_p102
  | 103, _ => exact List.mem_of_getElem? rb_wC_p103
  | 104, _ => exact List.mem_of_getElem? rb_wC_p104
  | 105, _ => exact List.mem_of_getElem? rb_wC_p105
  | 106, _ => exact List.mem_of_getElem? rb_wC_p106
  | 107, _ => exact List.mem_of_getElem? rb_wC_p107
  | 108, _ => exact List.mem_of_getElem? rb_wC_p108
  | 109, _ => exact List.mem_of_getElem? rb_wC_p109
  | 110, _ => exact List.mem_of_getElem? rb_wC_p110
  | 111, _ => exact List.mem_of_getElem? rb_wC_p111
  | 112, _ => exact List.mem_of_getElem? rb_wC_p112
  | 113, _ => exact List.mem_of_getElem? rb_wC_p113
  | 114, _ => exact List.mem_of_getElem? rb_wC_p114
  | 115, _ => exact List.mem_of_getElem? rb_wC_p115
  | 116, _ => exact List.mem_of_getElem? rb_wC_p116
  | 117, _ => exact List.mem_of_getElem? rb_wC_p117
  | 118, _ => exact List.mem_of_getElem? rb_wC_p118
  | 119, _ => exact List.mem_of_getElem? rb_wC_p119
  | 120, _ => exact List.mem_of_getElem? rb_wC_p120
  | 121, _ => exact List.mem_of_getElem? rb_wC_p121
  | 122, _ => exact List.mem_of_getElem? rb_wC_p122
  | 123, _ => exact List.mem_of_getElem? rb_wC_p123
  | 124, _ => exact List.mem_of_getElem? rb_wC_p124
  | 125, _ => exact List.mem_of_getElem? rb_wC_p125
  | 126, _ => exact List.mem_of_getElem? rb_wC_p126
  | 127, _ => exact List.mem_of_getElem? rb_wC_p127
  | 128, _ => exact List.mem_of_getElem? rb_wC_p128
  | 129, _ => exact List.mem_of_getElem? rb_wC_p129
  | 130, _ => exact List.mem_of_getElem? rb_wC_p130
  | 131, _ => exact List.mem_of_getElem? rb_wC_p131
  | 132, _ => exact List.mem_of_getElem? rb_wC_p132
  | n + 133, hk => omega
theorem rb_ws_tbl {w : Jvm.Cond} (h : w ∈ rb_ws) : w ∈ lw_tbl := by
  unfold rb_ws at h
  rcases List.mem_append.mp h with h | h
  · exact rb_wC_in h
  rcases List.mem_append.mp h with h | h
  · exact rb_wF_in h
  rcases List.mem_append.mp h with h | h
  · exact rb_wM_in h
  rcases List.mem_append.mp h with h | h
  · exact rb_wV_in h
  rcases List.mem_append.mp h with h | h
  · exact rb_posin _ rb_wO_p h
  rcases List.mem_append.mp h with h | h
  · exact rb_posin _ rb_wL_p h
  · exact rb_posin _ rb_wX_p h
end
section
/-! a call of the law's -/
section LWC
variable {p : Program} {l : Launch} {e : Env} {s : State} {m : MethodId} {args : Array Value} {below : List Frame} {meth : Method} {c : Code} {H : Heap} {locs : List Loc} {cells slots : Nat} {Q : State → Prop}
variable {D : va_G} {cA : Nat → ClassId} {bb : Nat} {A : Nat → Prop} {h h' : rb_H} {pc : Nat} {arr : Array Slot} {own : String} {cc : ByteArray} {nL : Nat}
theorem lw_goodws {k idx : Nat} {C : String} (hk : k < rb_nm) (w1 : Cond.methodLink own idx (rb_y k) ∈ lw_tbl) (w2 : Cond.instanceMethod (rb_y k) ∈ lw_tbl) (w3 : Cond.selects C (rb_y k) (rb_y k) ∈ lw_tbl) (w4 : Cond.initialized C ∈ lw_tbl) : GoodIn lw_tbl (wsV own idx C (rb_y k) (rb_wsk k)) := by
  intro w hw
  unfold wsV at hw
  rcases List.mem_append.mp hw with h9 | h9
  · have : w = .methodLink own idx (rb_y k) ∨ w = .instanceMethod (rb_y k) ∨ w = .selects C (rb_y k) (rb_y k) ∨ w = .initialized C := by simpa using h9
    rcases this with rfl | rfl | rfl | rfl
    · exact ⟨w1, Or.inl rfl⟩
    · exact ⟨w2, Or.inl rfl⟩
    · exact ⟨w3, Or.inl rfl⟩
    · exact ⟨w4, Or.inl rfl⟩
  · rcases List.mem_cons.mp h9 with h8 | h8
    · subst h8
      exact ⟨rb_ws_tbl (rb_code_in hk), Or.inl rfl⟩
    · exact ⟨rb_ws_tbl h8, rb_ws_good w h8⟩
set_option maxHeartbeats 4000000 in
theorem lw_call {k idx np : Nat} {as rest fs : List Value} {r : Option Value} {qc : vw_C} (S : CallFix p m c cc nL s args lw_tbl own) (harr : arr.size = nL) (hd : decode cc pc = .ok (.invokevirtual idx, 3)) (hk : k < rb_nm) (hq : rb_cl[rb_mc k]? = some qc) (hcls : (rb_y k).cls = qc.1) (w1 : Cond.methodLink own idx (rb_y k) ∈ lw_tbl) (w2 : Cond.instanceMethod (rb_y k) ∈ lw_tbl) (w3 : Cond.selects qc.1 (rb_y k) (rb_y k) ∈ lw_tbl) (w4 : Cond.initialized qc.1 ∈ lw_tbl)
    (hy : (rb_y k).cls ≠ "java/lang/invoke/MethodHandle" ∧ (rb_y k).cls ≠ "java/lang/invoke/VarHandle" ∧ (parseMethodDescriptor (rb_y k).desc).map (fun d => d.parameters.length) = some np) (has : as.length = np) (hml : rb_ml k < 21)
    (hobj : h.2.2 0 = .inr (rb_mc k, fs)) (hrel : rb_rel false 8 k (.ref 0 :: as) h r h') (hsz : h'.1 = h.1 ∧ h'.2.1 = h.2.1) (hbl : ∀ i, h.1 ≤ i → h.2.2 i = rb_blank) (hK : va_K D rb_cl (rb_tys cA) s) (hP : va_P D rb_cl (rb_w bb cA h) H) (hD : va_D A (rb_w bb cA h)) (hS : va_S A s.heap H locs) (hA : ∀ q, s.heap.size ≤ q → A q) (hrest : (rest.map fun v => v.category).sum ≤ 8) (hcell : cells ≤ 600000 ∧ slots ≤ 7302250)
    (kk : ∀ (H1 : Heap) (locs1 : List Loc), va_P D rb_cl (rb_w bb cA h') H1 → va_D A (rb_w bb cA h') → va_S A s.heap H1 locs1 → (∀ q, q < H.size → ¬ va_A (rb_w bb cA h) H.size q → H1[q]? = H[q]?) → H.size ≤ H1.size → W p l e room_1 s m args below meth c H1 locs1 cells slots Q (F0 m (pc + 3) arr ((r.map (rb_rv bb)).toList ++ rest))) :
    W p l e room_1 s m args below meth c H locs cells slots Q (F0 m pc arr ((as.map (rb_rv bb)).reverse ++ .ref (bb + 0) :: rest)) := by
  have hM := rb_met (l := l) (D := D) (cA := cA) (b := bb) (al := false) 8 k (.ref 0 :: as) h r h' hrel hk hbl H.size
  rw [hsz.1, hsz.2, Nat.sub_self, Nat.sub_self] at hM
  have hAA : ∀ q, va_A (rb_w bb cA h) H.size q → A q := by
    rintro q (⟨i, e9, hi⟩ | h9)
    · exact hD.2 i _ hi
    · exact hA q (Nat.le_trans hS.1 h9)
  have hpre : ∀ U : State, U.heap = H → s.WarmedH U.vm → rb_Pc false D cA bb h (.ref 0 :: as) H.size ((Value.ref 0 :: as).map (rb_rv bb)).toArray U := by
    intro U hU hW
    exact ⟨rfl, by rw [hU], fun h9 => (by cases h9), by rw [hU]; exact hP, va_K.moved hW.alike hK, hD.weaken (fun _ _ _ _ => trivial)⟩
  have hrun := va_runV (Ts := lw_tbl) (C := qc.1) (b := bb + 0) (As := as.map (rb_rv bb)) (rest := rest) (g := F0 m pc arr ((as.map (rb_rv bb)).reverse ++ .ref (bb + 0) :: rest)) (H := H) (locs := locs) (cells := cells) (slots := slots) (below := below) (meth := meth) (e := e) (R := room_1) S hM (cwV np S.2.2.2.2 (lw_goodws hk w1 w2 w3 w4) rfl rfl rfl ⟨hcls, hy⟩ ⟨by show 8 + 1 ≤ 10; omega, by show 8 + (rb_ml k + 11) + 40 * 8 ≤ 378; omega⟩) ⟨rb_blind, va_recv hK hP hq (rb_atO hobj (rb_inO hbl hobj (rb_clt hq))), hpre⟩ rfl (by rw [List.length_map]; exact has) harr rfl (lv_room hrest) hd ⟨by show cells + 0 ≤ 600000; omega, by show slots + 0 ≤ 7302250; omega⟩
  intro T hT X
  obtain ⟨v, st₀, t, T', Lc, g0, X', hLc, e1, e2, ⟨⟨hv, hP1, hD1⟩, hz, hkp⟩, go⟩ := hrun T hT X
  cases hv
  rw [g0] at hz hkp
  obtain ⟨t2, a1, b1⟩ := kk T'.heap (locs ++ Lc) (by rw [e1]; exact hP1) (hD1.weaken (fun i q _ h9 => hAA _ h9))
    ⟨Nat.le_trans hS.1 (by rw [e1]; exact hz), fun q h8 h9 => by rw [e1, hkp q (Nat.lt_of_lt_of_le h8 hS.1) (fun z => h9 (hAA q z))]; exact hS.2.1 q h8 h9, fun q hq => by
      rcases List.mem_append.mp hq with h9 | h9
      · exact hS.2.2 q h9
      · exact hAA _ (hLc q h9)⟩ (fun q h8 h9 => by rw [e1]; exact hkp q h8 h9) (by rw [e1]; exact hz) T' rfl X'
  exact ⟨t2, go t2 a1, b1⟩
end LWC
end
section
/-! THE CLAIM OUT OF ONE WALK OF THE LAW'S BODY. Your part is whole_start (and what it stands on); all else here is the same for every law, but numbers. -/
def R_law : String := "RingBridgesLaw"
def lw_P (b : Addr) (xs : List Int32) (args : Array Value) (s : State) : Prop := args = #[.ref b] ∧ s.IntsAt b xs ∧ xs.length ≤ 2048 ∧ (Jvm.Cond.and given_1 narrow_1).before args s = true
def lw_Q (_ : Array Value) (s : State) (o : Outcome) (t : State) : Prop := o = .returned (some (.int 1)) ∧ Framed s o t [] 600000 7302250
def lw_Z (below : List Frame) (a : Array Value) (s : State) : State → Prop := fun t => ∃ o, t.status = .running ∧ Ended t below o ∧ lw_Q a s o t
/-- the law's own end, with 1 on the stack, nothing written that was there before, its room as the claim has it -/
theorem lw_ret {p : Program} {l : Launch} {e : Env} {s : State} {m : MethodId} {below : List Frame} {meth : Method} {c : Code} {b : Nat} (hx : p.tables.exec = Jvm.exec) (hb : c.code = code) (hr : meth.sig.returnType = ret) (hlocks : meth.locks = false) {pc : Nat} {H : Heap} {ls : Array Slot} (hdg : decode code pc = .ok (.ireturn, 1)) : W p l e room_1 s m #[Value.ref b] below meth c H [] 600000 7302250 (lw_Z below #[Value.ref b] s) (F0 m pc ls [.int 1]) := by
  intro T hT X
  obtain ⟨fs, hret, hrun, hended, hW, hframe⟩ := X.leave (v := some (.int 1)) (hlocks := hlocks) (fun h => by rw [hr] at h; cases h)
  have hmeth' : T.vm.method? m = some meth := X.method'
  refine ⟨T.setFrames fs, ?_, .returned (some (.int 1)), hrun, hended, rfl, ⟨_, rfl⟩, hW, hframe⟩
  jvm_step X.here [X.here.top, hx, hb, hdg, hmeth', hr, ret, narrow_b1]
  (try refine ⟨rfl, ?_⟩); (try refine ⟨rfl, ?_⟩)
  first | (intro acts; rw [hret _ acts rfl rfl rfl]) | rw [hret _ _ rfl rfl rfl]
  exact Steps.refl _
/-- what holds at the law's entry: the machine, the code, the tables' words (any of lw_tbl by 'hts w (by decide +kernel)'), the script of L ints xs at the cell b, what the Statement gives of the start (any of its parts by flat_of_before) -/
def lw_At (p : Program) (s : State) (m : MethodId) (meth : Method) (c : Code) (b L : Nat) (xs : Nat → Int32) : Prop :=
  p.tables.exec = Jvm.exec ∧ c.code = code ∧ meth.sig.returnType = ret ∧ c.maxLocals = 4 ∧ s.vm.findClass R_law = some m.cls ∧ (∀ w ∈ lw_tbl, w.before #[Value.ref b] s = true) ∧ va_X b L xs s s.heap ∧ b < s.heap.size ∧ meth.locks = false ∧ (Jvm.Cond.and given_1 narrow_1).before #[Value.ref b] s = true
end
section
/-! the law's code, and the words of its calls -/
abbrev lw_I : Type := Jvm.ClassFile.Instr × Nat
def lw_c : List (Nat × lw_I) := [(0, .new 7, 3), (3, .dup, 1), (4, .invokespecial 9, 3), (7, .astore_n 1, 1), (8, .new 10, 3), (11, .dup, 1), (12, .invokespecial 12, 3), (15, .astore_n 2, 1),
  (16, .iconst 0, 1), (17, .istore_n 3, 1), (18, .iload_n 3, 1), (19, .aload_n 0, 1), (20, .arraylength, 1), (21, .iconst 4, 1), (22, .isub, 1), (23, .if_icmp .gt 647, 3),
  (26, .aload_n 0, 1), (27, .iload_n 3, 1), (28, .iaload, 1), (29, .bipush 31, 2), (31, .iand, 1), (32, .tableswitch 632 0 17 #[88, 121, 164, 187, 210, 243, 276, 309, 352, 375, 408, 431, 454, 477, 500, 523, 566, 599], 88), (120, .aload_n 1, 1), (121, .aload_n 0, 1),
  (122, .iload_n 3, 1), (123, .iconst 1, 1), (124, .iadd, 1), (125, .iaload, 1), (126, .aload_n 0, 1), (127, .iload_n 3, 1), (128, .iconst 2, 1), (129, .iadd, 1),
  (130, .iaload, 1), (131, .invokevirtual 13, 3), (134, .aload_n 2, 1), (135, .aload_n 0, 1), (136, .iload_n 3, 1), (137, .iconst 1, 1), (138, .iadd, 1), (139, .iaload, 1),
  (140, .aload_n 0, 1), (141, .iload_n 3, 1), (142, .iconst 2, 1), (143, .iadd, 1), (144, .iaload, 1), (145, .invokevirtual 17, 3), (148, .if_icmp .eq 516, 3), (151, .iconst 0, 1),
  (152, .ireturn, 1), (153, .aload_n 1, 1), (154, .aload_n 0, 1), (155, .iload_n 3, 1), (156, .iconst 1, 1), (157, .iadd, 1), (158, .iaload, 1), (159, .aload_n 0, 1),
  (160, .iload_n 3, 1), (161, .iconst 2, 1), (162, .iadd, 1), (163, .iaload, 1), (164, .aload_n 0, 1), (165, .iload_n 3, 1), (166, .iconst 3, 1), (167, .iadd, 1),
  (168, .iaload, 1), (169, .invokevirtual 18, 3), (172, .aload_n 2, 1), (173, .aload_n 0, 1), (174, .iload_n 3, 1), (175, .iconst 1, 1), (176, .iadd, 1), (177, .iaload, 1),
  (178, .aload_n 0, 1), (179, .iload_n 3, 1), (180, .iconst 2, 1), (181, .iadd, 1), (182, .iaload, 1), (183, .aload_n 0, 1), (184, .iload_n 3, 1), (185, .iconst 3, 1),
  (186, .iadd, 1), (187, .iaload, 1), (188, .invokevirtual 22, 3), (191, .if_icmp .eq 473, 3), (194, .iconst 0, 1), (195, .ireturn, 1), (196, .aload_n 1, 1), (197, .aload_n 0, 1),
  (198, .iload_n 3, 1), (199, .iconst 1, 1), (200, .iadd, 1), (201, .iaload, 1), (202, .invokevirtual 23, 3), (205, .aload_n 2, 1), (206, .aload_n 0, 1), (207, .iload_n 3, 1),
  (208, .iconst 1, 1), (209, .iadd, 1), (210, .iaload, 1), (211, .invokevirtual 27, 3), (214, .if_icmp .eq 450, 3), (217, .iconst 0, 1), (218, .ireturn, 1), (219, .aload_n 1, 1),
  (220, .aload_n 0, 1), (221, .iload_n 3, 1), (222, .iconst 1, 1), (223, .iadd, 1), (224, .iaload, 1), (225, .invokevirtual 28, 3), (228, .aload_n 2, 1), (229, .aload_n 0, 1),
  (230, .iload_n 3, 1), (231, .iconst 1, 1), (232, .iadd, 1), (233, .iaload, 1), (234, .invokevirtual 31, 3), (237, .if_icmp .eq 427, 3), (240, .iconst 0, 1), (241, .ireturn, 1),
  (242, .aload_n 1, 1), (243, .aload_n 0, 1), (244, .iload_n 3, 1), (245, .iconst 1, 1), (246, .iadd, 1), (247, .iaload, 1), (248, .aload_n 0, 1), (249, .iload_n 3, 1),
  (250, .iconst 2, 1), (251, .iadd, 1), (252, .iaload, 1), (253, .invokevirtual 32, 3), (256, .aload_n 2, 1), (257, .aload_n 0, 1), (258, .iload_n 3, 1), (259, .iconst 1, 1),
  (260, .iadd, 1), (261, .iaload, 1), (262, .aload_n 0, 1), (263, .iload_n 3, 1), (264, .iconst 2, 1), (265, .iadd, 1), (266, .iaload, 1), (267, .invokevirtual 35, 3),
  (270, .if_icmp .eq 394, 3), (273, .iconst 0, 1), (274, .ireturn, 1), (275, .aload_n 1, 1), (276, .aload_n 0, 1), (277, .iload_n 3, 1), (278, .iconst 1, 1), (279, .iadd, 1),
  (280, .iaload, 1), (281, .aload_n 0, 1), (282, .iload_n 3, 1), (283, .iconst 2, 1), (284, .iadd, 1), (285, .iaload, 1), (286, .invokevirtual 36, 3), (289, .aload_n 2, 1),
  (290, .aload_n 0, 1), (291, .iload_n 3, 1), (292, .iconst 1, 1), (293, .iadd, 1), (294, .iaload, 1), (295, .aload_n 0, 1), (296, .iload_n 3, 1), (297, .iconst 2, 1),
  (298, .iadd, 1), (299, .iaload, 1), (300, .invokevirtual 39, 3), (303, .if_icmp .eq 361, 3), (306, .iconst 0, 1), (307, .ireturn, 1), (308, .aload_n 1, 1), (309, .aload_n 0, 1),
  (310, .iload_n 3, 1), (311, .iconst 1, 1), (312, .iadd, 1), (313, .iaload, 1), (314, .aload_n 0, 1), (315, .iload_n 3, 1), (316, .iconst 2, 1), (317, .iadd, 1),
  (318, .iaload, 1), (319, .invokevirtual 40, 3), (322, .aload_n 2, 1), (323, .aload_n 0, 1), (324, .iload_n 3, 1), (325, .iconst 1, 1), (326, .iadd, 1), (327, .iaload, 1),
  (328, .aload_n 0, 1), (329, .iload_n 3, 1), (330, .iconst 2, 1), (331, .iadd, 1), (332, .iaload, 1), (333, .invokevirtual 44, 3), (336, .if_icmp .eq 328, 3), (339, .iconst 0, 1),
  (340, .ireturn, 1), (341, .aload_n 1, 1), (342, .aload_n 0, 1), (343, .iload_n 3, 1), (344, .iconst 1, 1), (345, .iadd, 1), (346, .iaload, 1), (347, .aload_n 0, 1),
  (348, .iload_n 3, 1), (349, .iconst 2, 1), (350, .iadd, 1), (351, .iaload, 1), (352, .aload_n 0, 1), (353, .iload_n 3, 1), (354, .iconst 3, 1), (355, .iadd, 1),
  (356, .iaload, 1), (357, .invokevirtual 45, 3), (360, .aload_n 2, 1), (361, .aload_n 0, 1), (362, .iload_n 3, 1), (363, .iconst 1, 1), (364, .iadd, 1), (365, .iaload, 1),
  (366, .aload_n 0, 1), (367, .iload_n 3, 1), (368, .iconst 2, 1), (369, .iadd, 1), (370, .iaload, 1), (371, .aload_n 0, 1), (372, .iload_n 3, 1), (373, .iconst 3, 1),
  (374, .iadd, 1), (375, .iaload, 1), (376, .invokevirtual 49, 3), (379, .if_icmp .eq 285, 3), (382, .iconst 0, 1), (383, .ireturn, 1), (384, .aload_n 1, 1), (385, .aload_n 0, 1),
  (386, .iload_n 3, 1), (387, .iconst 1, 1), (388, .iadd, 1), (389, .iaload, 1), (390, .invokevirtual 50, 3), (393, .aload_n 2, 1), (394, .aload_n 0, 1), (395, .iload_n 3, 1),
  (396, .iconst 1, 1), (397, .iadd, 1), (398, .iaload, 1), (399, .invokevirtual 53, 3), (402, .if_icmp .eq 262, 3), (405, .iconst 0, 1), (406, .ireturn, 1), (407, .aload_n 1, 1),
  (408, .aload_n 0, 1), (409, .iload_n 3, 1), (410, .iconst 1, 1), (411, .iadd, 1), (412, .iaload, 1), (413, .aload_n 0, 1), (414, .iload_n 3, 1), (415, .iconst 2, 1),
  (416, .iadd, 1), (417, .iaload, 1), (418, .invokevirtual 54, 3), (421, .aload_n 2, 1), (422, .aload_n 0, 1), (423, .iload_n 3, 1), (424, .iconst 1, 1), (425, .iadd, 1),
  (426, .iaload, 1), (427, .aload_n 0, 1), (428, .iload_n 3, 1), (429, .iconst 2, 1), (430, .iadd, 1), (431, .iaload, 1), (432, .invokevirtual 57, 3), (435, .if_icmp .eq 229, 3),
  (438, .iconst 0, 1), (439, .ireturn, 1), (440, .aload_n 1, 1), (441, .aload_n 0, 1), (442, .iload_n 3, 1), (443, .iconst 1, 1), (444, .iadd, 1), (445, .iaload, 1),
  (446, .invokevirtual 58, 3), (449, .aload_n 2, 1), (450, .aload_n 0, 1), (451, .iload_n 3, 1), (452, .iconst 1, 1), (453, .iadd, 1), (454, .iaload, 1), (455, .invokevirtual 62, 3),
  (458, .if_icmp .eq 206, 3), (461, .iconst 0, 1), (462, .ireturn, 1), (463, .aload_n 1, 1), (464, .aload_n 0, 1), (465, .iload_n 3, 1), (466, .iconst 1, 1), (467, .iadd, 1),
  (468, .iaload, 1), (469, .invokevirtual 63, 3), (472, .aload_n 2, 1), (473, .aload_n 0, 1), (474, .iload_n 3, 1), (475, .iconst 1, 1), (476, .iadd, 1), (477, .iaload, 1),
  (478, .invokevirtual 66, 3), (481, .if_icmp .eq 183, 3), (484, .iconst 0, 1), (485, .ireturn, 1), (486, .aload_n 1, 1), (487, .aload_n 0, 1), (488, .iload_n 3, 1), (489, .iconst 1, 1),
  (490, .iadd, 1), (491, .iaload, 1), (492, .invokevirtual 67, 3), (495, .aload_n 2, 1), (496, .aload_n 0, 1), (497, .iload_n 3, 1), (498, .iconst 1, 1), (499, .iadd, 1),
  (500, .iaload, 1), (501, .invokevirtual 70, 3), (504, .if_icmp .eq 160, 3), (507, .iconst 0, 1), (508, .ireturn, 1), (509, .aload_n 1, 1), (510, .aload_n 0, 1), (511, .iload_n 3, 1),
  (512, .iconst 1, 1), (513, .iadd, 1), (514, .iaload, 1), (515, .invokevirtual 71, 3), (518, .aload_n 2, 1), (519, .aload_n 0, 1), (520, .iload_n 3, 1), (521, .iconst 1, 1),
  (522, .iadd, 1), (523, .iaload, 1), (524, .invokevirtual 74, 3), (527, .if_icmp .eq 137, 3), (530, .iconst 0, 1), (531, .ireturn, 1), (532, .aload_n 1, 1), (533, .aload_n 0, 1),
  (534, .iload_n 3, 1), (535, .iconst 1, 1), (536, .iadd, 1), (537, .iaload, 1), (538, .invokevirtual 75, 3), (541, .aload_n 2, 1), (542, .aload_n 0, 1), (543, .iload_n 3, 1),
  (544, .iconst 1, 1), (545, .iadd, 1), (546, .iaload, 1), (547, .invokevirtual 78, 3), (550, .if_icmp .eq 114, 3), (553, .iconst 0, 1), (554, .ireturn, 1), (555, .aload_n 1, 1),
  (556, .aload_n 0, 1), (557, .iload_n 3, 1), (558, .iconst 1, 1), (559, .iadd, 1), (560, .iaload, 1), (561, .aload_n 0, 1), (562, .iload_n 3, 1), (563, .iconst 2, 1),
  (564, .iadd, 1), (565, .iaload, 1), (566, .aload_n 0, 1), (567, .iload_n 3, 1), (568, .iconst 3, 1), (569, .iadd, 1), (570, .iaload, 1), (571, .invokevirtual 79, 3),
  (574, .aload_n 2, 1), (575, .aload_n 0, 1), (576, .iload_n 3, 1), (577, .iconst 1, 1), (578, .iadd, 1), (579, .iaload, 1), (580, .aload_n 0, 1), (581, .iload_n 3, 1),
  (582, .iconst 2, 1), (583, .iadd, 1), (584, .iaload, 1), (585, .aload_n 0, 1), (586, .iload_n 3, 1), (587, .iconst 3, 1), (588, .iadd, 1), (589, .iaload, 1),
  (590, .invokevirtual 82, 3), (593, .if_icmp .eq 71, 3), (596, .iconst 0, 1), (597, .ireturn, 1), (598, .aload_n 1, 1), (599, .aload_n 0, 1), (600, .iload_n 3, 1), (601, .iconst 1, 1),
  (602, .iadd, 1), (603, .iaload, 1), (604, .aload_n 0, 1), (605, .iload_n 3, 1), (606, .iconst 2, 1), (607, .iadd, 1), (608, .iaload, 1), (609, .invokevirtual 83, 3),
  (612, .aload_n 2, 1), (613, .aload_n 0, 1), (614, .iload_n 3, 1), (615, .iconst 1, 1), (616, .iadd, 1), (617, .iaload, 1), (618, .aload_n 0, 1), (619, .iload_n 3, 1),
  (620, .iconst 2, 1), (621, .iadd, 1), (622, .iaload, 1), (623, .invokevirtual 86, 3), (626, .if_icmp .eq 38, 3), (629, .iconst 0, 1), (630, .ireturn, 1), (631, .aload_n 1, 1),
  (632, .aload_n 0, 1), (633, .iload_n 3, 1), (634, .iconst 1, 1), (635, .iadd, 1), (636, .iaload, 1), (637, .aload_n 0, 1), (638, .iload_n 3, 1), (639, .iconst 2, 1),
  (640, .iadd, 1), (641, .iaload, 1), (642, .invokevirtual 87, 3), (645, .aload_n 2, 1), (646, .aload_n 0, 1), (647, .iload_n 3, 1), (648, .iconst 1, 1), (649, .iadd, 1),
  (650, .iaload, 1), (651, .aload_n 0, 1), (652, .iload_n 3, 1), (653, .iconst 2, 1), (654, .iadd, 1), (655, .iaload, 1), (656, .invokevirtual 90, 3), (659, .if_icmp .eq 5, 3),
  (662, .iconst 0, 1), (663, .ireturn, 1), (664, .iinc 3 4, 3), (667, .goto (-649), 3), (670, .iconst 1, 1), (671, .ireturn, 1)]
def lw_look (pc : Nat) : List (Nat × lw_I) → Option lw_I
  | [] => none
  | q :: r => match Nat.beq q.1 pc with
    | true => some q.2
    | false => lw_look pc r
theorem lw_look_mem {pc : Nat} {q : lw_I} : ∀ {L : List (Nat × lw_I)}, lw_look pc L = some q → (pc, q) ∈ L
  | [], h => by cases h
  | x :: r, h => by
    unfold lw_look at h
    split at h
    · rename_i hx
      have e := Nat.eq_of_beq_eq_true hx
      cases h
      rw [← e]
      exact List.mem_cons_self
    · exact List.mem_cons_of_mem _ (lw_look_mem h)
set_option maxRecDepth 1000000 in
theorem lw_ck : lw_c.all (fun q => decide (decode code q.1 = .ok q.2)) = true := by decide +kernel
theorem lw_d {pc : Nat} {q : lw_I} (h : lw_look pc lw_c = some q) : decode code pc = .ok q := of_decide_eq_true (List.all_eq_true.mp lw_ck (pc, q) (lw_look_mem h))
set_option maxRecDepth 1000000 in
theorem lw_m1 : Cond.methodLink R_law 13 (rb_y 1) ∈ lw_tbl := List.mem_of_getElem? (i := 350) rfl
set_option maxRecDepth 1000000 in
theorem lw_n1 : Cond.instanceMethod (rb_y 1) ∈ lw_tbl := List.mem_of_getElem? (i := 351) rfl
set_option maxRecDepth 1000000 in
theorem lw_s1 : Cond.selects "RingBridges" (rb_y 1) (rb_y 1) ∈ lw_tbl := List.mem_of_getElem? (i := 352) rfl
set_option maxRecDepth 1000000 in
theorem lw_m69 : Cond.methodLink R_law 17 (rb_y 69) ∈ lw_tbl := List.mem_of_getElem? (i := 935) rfl
set_option maxRecDepth 1000000 in
theorem lw_n69 : Cond.instanceMethod (rb_y 69) ∈ lw_tbl := List.mem_of_getElem? (i := 936) rfl
set_option maxRecDepth 1000000 in
theorem lw_s69 : Cond.selects "RingBridgesModel" (rb_y 69) (rb_y 69) ∈ lw_tbl := List.mem_of_getElem? (i := 937) rfl
set_option maxRecDepth 1000000 in
theorem lw_m2 : Cond.methodLink R_law 18 (rb_y 2) ∈ lw_tbl := List.mem_of_getElem? (i := 382) rfl
set_option maxRecDepth 1000000 in
theorem lw_n2 : Cond.instanceMethod (rb_y 2) ∈ lw_tbl := List.mem_of_getElem? (i := 383) rfl
set_option maxRecDepth 1000000 in
theorem lw_s2 : Cond.selects "RingBridges" (rb_y 2) (rb_y 2) ∈ lw_tbl := List.mem_of_getElem? (i := 384) rfl
set_option maxRecDepth 1000000 in
theorem lw_m70 : Cond.methodLink R_law 22 (rb_y 70) ∈ lw_tbl := List.mem_of_getElem? (i := 953) rfl
set_option maxRecDepth 1000000 in
theorem lw_n70 : Cond.instanceMethod (rb_y 70) ∈ lw_tbl := List.mem_of_getElem? (i := 954) rfl
set_option maxRecDepth 1000000 in
theorem lw_s70 : Cond.selects "RingBridgesModel" (rb_y 70) (rb_y 70) ∈ lw_tbl := List.mem_of_getElem? (i := 955) rfl
set_option maxRecDepth 1000000 in
theorem lw_m3 : Cond.methodLink R_law 23 (rb_y 3) ∈ lw_tbl := List.mem_of_getElem? (i := 386) rfl
set_option maxRecDepth 1000000 in
theorem lw_n3 : Cond.instanceMethod (rb_y 3) ∈ lw_tbl := List.mem_of_getElem? (i := 387) rfl
set_option maxRecDepth 1000000 in
theorem lw_s3 : Cond.selects "RingBridges" (rb_y 3) (rb_y 3) ∈ lw_tbl := List.mem_of_getElem? (i := 388) rfl
set_option maxRecDepth 1000000 in
theorem lw_m72 : Cond.methodLink R_law 27 (rb_y 72) ∈ lw_tbl := List.mem_of_getElem? (i := 957) rfl
set_option maxRecDepth 1000000 in
theorem lw_n72 : Cond.instanceMethod (rb_y 72) ∈ lw_tbl := List.mem_of_getElem? (i := 958) rfl
set_option maxRecDepth 1000000 in
theorem lw_s72 : Cond.selects "RingBridgesModel" (rb_y 72) (rb_y 72) ∈ lw_tbl := List.mem_of_getElem? (i := 959) rfl
set_option maxRecDepth 1000000 in
theorem lw_m4 : Cond.methodLink R_law 28 (rb_y 4) ∈ lw_tbl := List.mem_of_getElem? (i := 410) rfl
set_option maxRecDepth 1000000 in
theorem lw_n4 : Cond.instanceMethod (rb_y 4) ∈ lw_tbl := List.mem_of_getElem? (i := 411) rfl
set_option maxRecDepth 1000000 in
theorem lw_s4 : Cond.selects "RingBridges" (rb_y 4) (rb_y 4) ∈ lw_tbl := List.mem_of_getElem? (i := 412) rfl
set_option maxRecDepth 1000000 in
theorem lw_m73 : Cond.methodLink R_law 31 (rb_y 73) ∈ lw_tbl := List.mem_of_getElem? (i := 965) rfl
set_option maxRecDepth 1000000 in
theorem lw_n73 : Cond.instanceMethod (rb_y 73) ∈ lw_tbl := List.mem_of_getElem? (i := 966) rfl
set_option maxRecDepth 1000000 in
theorem lw_s73 : Cond.selects "RingBridgesModel" (rb_y 73) (rb_y 73) ∈ lw_tbl := List.mem_of_getElem? (i := 967) rfl
set_option maxRecDepth 1000000 in
theorem lw_m5 : Cond.methodLink R_law 32 (rb_y 5) ∈ lw_tbl := List.mem_of_getElem? (i := 415) rfl
set_option maxRecDepth 1000000 in
theorem lw_n5 : Cond.instanceMethod (rb_y 5) ∈ lw_tbl := List.mem_of_getElem? (i := 416) rfl
set_option maxRecDepth 1000000 in
theorem lw_s5 : Cond.selects "RingBridges" (rb_y 5) (rb_y 5) ∈ lw_tbl := List.mem_of_getElem? (i := 417) rfl
set_option maxRecDepth 1000000 in
theorem lw_m74 : Cond.methodLink R_law 35 (rb_y 74) ∈ lw_tbl := List.mem_of_getElem? (i := 969) rfl
set_option maxRecDepth 1000000 in
theorem lw_n74 : Cond.instanceMethod (rb_y 74) ∈ lw_tbl := List.mem_of_getElem? (i := 970) rfl
set_option maxRecDepth 1000000 in
theorem lw_s74 : Cond.selects "RingBridgesModel" (rb_y 74) (rb_y 74) ∈ lw_tbl := List.mem_of_getElem? (i := 971) rfl
set_option maxRecDepth 1000000 in
theorem lw_m6 : Cond.methodLink R_law 36 (rb_y 6) ∈ lw_tbl := List.mem_of_getElem? (i := 432) rfl
set_option maxRecDepth 1000000 in
theorem lw_n6 : Cond.instanceMethod (rb_y 6) ∈ lw_tbl := List.mem_of_getElem? (i := 433) rfl
set_option maxRecDepth 1000000 in
theorem lw_s6 : Cond.selects "RingBridges" (rb_y 6) (rb_y 6) ∈ lw_tbl := List.mem_of_getElem? (i := 434) rfl
set_option maxRecDepth 1000000 in
theorem lw_m75 : Cond.methodLink R_law 39 (rb_y 75) ∈ lw_tbl := List.mem_of_getElem? (i := 973) rfl
set_option maxRecDepth 1000000 in
theorem lw_n75 : Cond.instanceMethod (rb_y 75) ∈ lw_tbl := List.mem_of_getElem? (i := 974) rfl
set_option maxRecDepth 1000000 in
theorem lw_s75 : Cond.selects "RingBridgesModel" (rb_y 75) (rb_y 75) ∈ lw_tbl := List.mem_of_getElem? (i := 975) rfl
set_option maxRecDepth 1000000 in
theorem lw_m7 : Cond.methodLink R_law 40 (rb_y 7) ∈ lw_tbl := List.mem_of_getElem? (i := 440) rfl
set_option maxRecDepth 1000000 in
theorem lw_n7 : Cond.instanceMethod (rb_y 7) ∈ lw_tbl := List.mem_of_getElem? (i := 441) rfl
set_option maxRecDepth 1000000 in
theorem lw_s7 : Cond.selects "RingBridges" (rb_y 7) (rb_y 7) ∈ lw_tbl := List.mem_of_getElem? (i := 442) rfl
set_option maxRecDepth 1000000 in
theorem lw_m76 : Cond.methodLink R_law 44 (rb_y 76) ∈ lw_tbl := List.mem_of_getElem? (i := 977) rfl
set_option maxRecDepth 1000000 in
theorem lw_n76 : Cond.instanceMethod (rb_y 76) ∈ lw_tbl := List.mem_of_getElem? (i := 978) rfl
set_option maxRecDepth 1000000 in
theorem lw_s76 : Cond.selects "RingBridgesModel" (rb_y 76) (rb_y 76) ∈ lw_tbl := List.mem_of_getElem? (i := 979) rfl
set_option maxRecDepth 1000000 in
theorem lw_m8 : Cond.methodLink R_law 45 (rb_y 8) ∈ lw_tbl := List.mem_of_getElem? (i := 444) rfl
set_option maxRecDepth 1000000 in
theorem lw_n8 : Cond.instanceMethod (rb_y 8) ∈ lw_tbl := List.mem_of_getElem? (i := 445) rfl
set_option maxRecDepth 1000000 in
theorem lw_s8 : Cond.selects "RingBridges" (rb_y 8) (rb_y 8) ∈ lw_tbl := List.mem_of_getElem? (i := 446) rfl
set_option maxRecDepth 1000000 in
theorem lw_m77 : Cond.methodLink R_law 49 (rb_y 77) ∈ lw_tbl := List.mem_of_getElem? (i := 981) rfl
set_option maxRecDepth 1000000 in
theorem lw_n77 : Cond.instanceMethod (rb_y 77) ∈ lw_tbl := List.mem_of_getElem? (i := 982) rfl
set_option maxRecDepth 1000000 in
theorem lw_s77 : Cond.selects "RingBridgesModel" (rb_y 77) (rb_y 77) ∈ lw_tbl := List.mem_of_getElem? (i := 983) rfl
set_option maxRecDepth 1000000 in
theorem lw_m9 : Cond.methodLink R_law 50 (rb_y 9) ∈ lw_tbl := List.mem_of_getElem? (i := 456) rfl
set_option maxRecDepth 1000000 in
theorem lw_n9 : Cond.instanceMethod (rb_y 9) ∈ lw_tbl := List.mem_of_getElem? (i := 457) rfl
set_option maxRecDepth 1000000 in
theorem lw_s9 : Cond.selects "RingBridges" (rb_y 9) (rb_y 9) ∈ lw_tbl := List.mem_of_getElem? (i := 458) rfl
set_option maxRecDepth 1000000 in
theorem lw_m79 : Cond.methodLink R_law 53 (rb_y 79) ∈ lw_tbl := List.mem_of_getElem? (i := 985) rfl
set_option maxRecDepth 1000000 in
theorem lw_n79 : Cond.instanceMethod (rb_y 79) ∈ lw_tbl := List.mem_of_getElem? (i := 986) rfl
set_option maxRecDepth 1000000 in
theorem lw_s79 : Cond.selects "RingBridgesModel" (rb_y 79) (rb_y 79) ∈ lw_tbl := List.mem_of_getElem? (i := 987) rfl
set_option maxRecDepth 1000000 in
theorem lw_m10 : Cond.methodLink R_law 54 (rb_y 10) ∈ lw_tbl := List.mem_of_getElem? (i := 464) rfl
set_option maxRecDepth 1000000 in
theorem lw_n10 : Cond.instanceMethod (rb_y 10) ∈ lw_tbl := List.mem_of_getElem? (i := 465) rfl
set_option maxRecDepth 1000000 in
theorem lw_s10 : Cond.selects "RingBridges" (rb_y 10) (rb_y 10) ∈ lw_tbl := List.mem_of_getElem? (i := 466) rfl
set_option maxRecDepth 1000000 in
theorem lw_m80 : Cond.methodLink R_law 57 (rb_y 80) ∈ lw_tbl := List.mem_of_getElem? (i := 992) rfl
set_option maxRecDepth 1000000 in
theorem lw_n80 : Cond.instanceMethod (rb_y 80) ∈ lw_tbl := List.mem_of_getElem? (i := 993) rfl
set_option maxRecDepth 1000000 in
theorem lw_s80 : Cond.selects "RingBridgesModel" (rb_y 80) (rb_y 80) ∈ lw_tbl := List.mem_of_getElem? (i := 994) rfl
set_option maxRecDepth 1000000 in
theorem lw_m11 : Cond.methodLink R_law 58 (rb_y 11) ∈ lw_tbl := List.mem_of_getElem? (i := 477) rfl
set_option maxRecDepth 1000000 in
theorem lw_n11 : Cond.instanceMethod (rb_y 11) ∈ lw_tbl := List.mem_of_getElem? (i := 478) rfl
set_option maxRecDepth 1000000 in
theorem lw_s11 : Cond.selects "RingBridges" (rb_y 11) (rb_y 11) ∈ lw_tbl := List.mem_of_getElem? (i := 479) rfl
set_option maxRecDepth 1000000 in
theorem lw_m81 : Cond.methodLink R_law 62 (rb_y 81) ∈ lw_tbl := List.mem_of_getElem? (i := 996) rfl
set_option maxRecDepth 1000000 in
theorem lw_n81 : Cond.instanceMethod (rb_y 81) ∈ lw_tbl := List.mem_of_getElem? (i := 997) rfl
set_option maxRecDepth 1000000 in
theorem lw_s81 : Cond.selects "RingBridgesModel" (rb_y 81) (rb_y 81) ∈ lw_tbl := List.mem_of_getElem? (i := 998) rfl
set_option maxRecDepth 1000000 in
theorem lw_m12 : Cond.methodLink R_law 63 (rb_y 12) ∈ lw_tbl := List.mem_of_getElem? (i := 509) rfl
set_option maxRecDepth 1000000 in
theorem lw_n12 : Cond.instanceMethod (rb_y 12) ∈ lw_tbl := List.mem_of_getElem? (i := 510) rfl
set_option maxRecDepth 1000000 in
theorem lw_s12 : Cond.selects "RingBridges" (rb_y 12) (rb_y 12) ∈ lw_tbl := List.mem_of_getElem? (i := 511) rfl
set_option maxRecDepth 1000000 in
theorem lw_m68 : Cond.methodLink R_law 66 (rb_y 68) ∈ lw_tbl := List.mem_of_getElem? (i := 853) rfl
set_option maxRecDepth 1000000 in
theorem lw_n68 : Cond.instanceMethod (rb_y 68) ∈ lw_tbl := List.mem_of_getElem? (i := 854) rfl
set_option maxRecDepth 1000000 in
theorem lw_s68 : Cond.selects "RingBridgesModel" (rb_y 68) (rb_y 68) ∈ lw_tbl := List.mem_of_getElem? (i := 855) rfl
set_option maxRecDepth 1000000 in
theorem lw_m13 : Cond.methodLink R_law 67 (rb_y 13) ∈ lw_tbl := List.mem_of_getElem? (i := 652) rfl
set_option maxRecDepth 1000000 in
theorem lw_n13 : Cond.instanceMethod (rb_y 13) ∈ lw_tbl := List.mem_of_getElem? (i := 653) rfl
set_option maxRecDepth 1000000 in
theorem lw_s13 : Cond.selects "RingBridges" (rb_y 13) (rb_y 13) ∈ lw_tbl := List.mem_of_getElem? (i := 654) rfl
set_option maxRecDepth 1000000 in
theorem lw_m82 : Cond.methodLink R_law 70 (rb_y 82) ∈ lw_tbl := List.mem_of_getElem? (i := 1000) rfl
set_option maxRecDepth 1000000 in
theorem lw_n82 : Cond.instanceMethod (rb_y 82) ∈ lw_tbl := List.mem_of_getElem? (i := 1001) rfl
set_option maxRecDepth 1000000 in
theorem lw_s82 : Cond.selects "RingBridgesModel" (rb_y 82) (rb_y 82) ∈ lw_tbl := List.mem_of_getElem? (i := 1002) rfl
set_option maxRecDepth 1000000 in
theorem lw_m14 : Cond.methodLink R_law 71 (rb_y 14) ∈ lw_tbl := List.mem_of_getElem? (i := 660) rfl
set_option maxRecDepth 1000000 in
theorem lw_n14 : Cond.instanceMethod (rb_y 14) ∈ lw_tbl := List.mem_of_getElem? (i := 661) rfl
set_option maxRecDepth 1000000 in
theorem lw_s14 : Cond.selects "RingBridges" (rb_y 14) (rb_y 14) ∈ lw_tbl := List.mem_of_getElem? (i := 662) rfl
set_option maxRecDepth 1000000 in
theorem lw_m83 : Cond.methodLink R_law 74 (rb_y 83) ∈ lw_tbl := List.mem_of_getElem? (i := 1004) rfl
set_option maxRecDepth 1000000 in
theorem lw_n83 : Cond.instanceMethod (rb_y 83) ∈ lw_tbl := List.mem_of_getElem? (i := 1005) rfl
set_option maxRecDepth 1000000 in
theorem lw_s83 : Cond.selects "RingBridgesModel" (rb_y 83) (rb_y 83) ∈ lw_tbl := List.mem_of_getElem? (i := 1006) rfl
set_option maxRecDepth 1000000 in
theorem lw_m15 : Cond.methodLink R_law 75 (rb_y 15) ∈ lw_tbl := List.mem_of_getElem? (i := 664) rfl
set_option maxRecDepth 1000000 in
theorem lw_n15 : Cond.instanceMethod (rb_y 15) ∈ lw_tbl := List.mem_of_getElem? (i := 665) rfl
set_option maxRecDepth 1000000 in
theorem lw_s15 : Cond.selects "RingBridges" (rb_y 15) (rb_y 15) ∈ lw_tbl := List.mem_of_getElem? (i := 666) rfl
set_option maxRecDepth 1000000 in
theorem lw_m84 : Cond.methodLink R_law 78 (rb_y 84) ∈ lw_tbl := List.mem_of_getElem? (i := 1008) rfl
set_option maxRecDepth 1000000 in
theorem lw_n84 : Cond.instanceMethod (rb_y 84) ∈ lw_tbl := List.mem_of_getElem? (i := 1009) rfl
set_option maxRecDepth 1000000 in
theorem lw_s84 : Cond.selects "RingBridgesModel" (rb_y 84) (rb_y 84) ∈ lw_tbl := List.mem_of_getElem? (i := 1010) rfl
set_option maxRecDepth 1000000 in
theorem lw_m16 : Cond.methodLink R_law 79 (rb_y 16) ∈ lw_tbl := List.mem_of_getElem? (i := 668) rfl
set_option maxRecDepth 1000000 in
theorem lw_n16 : Cond.instanceMethod (rb_y 16) ∈ lw_tbl := List.mem_of_getElem? (i := 669) rfl
set_option maxRecDepth 1000000 in
theorem lw_s16 : Cond.selects "RingBridges" (rb_y 16) (rb_y 16) ∈ lw_tbl := List.mem_of_getElem? (i := 670) rfl
set_option maxRecDepth 1000000 in
theorem lw_m85 : Cond.methodLink R_law 82 (rb_y 85) ∈ lw_tbl := List.mem_of_getElem? (i := 1012) rfl
set_option maxRecDepth 1000000 in
theorem lw_n85 : Cond.instanceMethod (rb_y 85) ∈ lw_tbl := List.mem_of_getElem? (i := 1013) rfl
set_option maxRecDepth 1000000 in
theorem lw_s85 : Cond.selects "RingBridgesModel" (rb_y 85) (rb_y 85) ∈ lw_tbl := List.mem_of_getElem? (i := 1014) rfl
set_option maxRecDepth 1000000 in
theorem lw_m17 : Cond.methodLink R_law 83 (rb_y 17) ∈ lw_tbl := List.mem_of_getElem? (i := 672) rfl
set_option maxRecDepth 1000000 in
theorem lw_n17 : Cond.instanceMethod (rb_y 17) ∈ lw_tbl := List.mem_of_getElem? (i := 673) rfl
set_option maxRecDepth 1000000 in
theorem lw_s17 : Cond.selects "RingBridges" (rb_y 17) (rb_y 17) ∈ lw_tbl := List.mem_of_getElem? (i := 674) rfl
set_option maxRecDepth 1000000 in
theorem lw_m86 : Cond.methodLink R_law 86 (rb_y 86) ∈ lw_tbl := List.mem_of_getElem? (i := 1016) rfl
set_option maxRecDepth 1000000 in
theorem lw_n86 : Cond.instanceMethod (rb_y 86) ∈ lw_tbl := List.mem_of_getElem? (i := 1017) rfl
set_option maxRecDepth 1000000 in
theorem lw_s86 : Cond.selects "RingBridgesModel" (rb_y 86) (rb_y 86) ∈ lw_tbl := List.mem_of_getElem? (i := 1018) rfl
set_option maxRecDepth 1000000 in
theorem lw_m18 : Cond.methodLink R_law 87 (rb_y 18) ∈ lw_tbl := List.mem_of_getElem? (i := 676) rfl
set_option maxRecDepth 1000000 in
theorem lw_n18 : Cond.instanceMethod (rb_y 18) ∈ lw_tbl := List.mem_of_getElem? (i := 677) rfl
set_option maxRecDepth 1000000 in
theorem lw_s18 : Cond.selects "RingBridges" (rb_y 18) (rb_y 18) ∈ lw_tbl := List.mem_of_getElem? (i := 678) rfl
set_option maxRecDepth 1000000 in
theorem lw_m87 : Cond.methodLink R_law 90 (rb_y 87) ∈ lw_tbl := List.mem_of_getElem? (i := 1020) rfl
set_option maxRecDepth 1000000 in
theorem lw_n87 : Cond.instanceMethod (rb_y 87) ∈ lw_tbl := List.mem_of_getElem? (i := 1021) rfl
set_option maxRecDepth 1000000 in
theorem lw_s87 : Cond.selects "RingBridgesModel" (rb_y 87) (rb_y 87) ∈ lw_tbl := List.mem_of_getElem? (i := 1022) rfl
set_option maxRecDepth 1000000 in
theorem lw_iC : Cond.initialized "RingBridges" ∈ lw_tbl := List.mem_of_getElem? (i := 39) rfl
set_option maxRecDepth 1000000 in
theorem lw_iR : Cond.initialized "RingBridgesModel" ∈ lw_tbl := List.mem_of_getElem? (i := 46) rfl
end
section
/-! the eighteen cases of the law -/
/-- what stands at the head of the law's loop -/
def lw_In (D : va_G) (cA : Nat → ClassId) (s : State) (hC hR : rb_H) (H : Heap) (locs : List Loc) : Prop := va_P D rb_cl (rb_w s.heap.size cA hC) H ∧ va_P D rb_cl (rb_w (s.heap.size + 166) cA hR) H ∧ va_S (fun q => s.heap.size ≤ q) s.heap H locs ∧ (hC.1 = 166 ∧ hC.2.1 = 1286 ∧ (∀ i, hC.1 ≤ i → hC.2.2 i = rb_blank) ∧ ∃ fs, hC.2.2 0 = .inr (0, fs)) ∧ hR.1 = 55 ∧ hR.2.1 = 1603 ∧ (∀ i, hR.1 ≤ i → hR.2.2 i = rb_blank) ∧ ∃ fs, hR.2.2 0 = .inr (7, fs)
theorem lw_D {b : Nat} {cA : Nat → ClassId} {h : rb_H} {sz : Nat} (hb : sz ≤ b) : va_D (fun q => sz ≤ q) (rb_w b cA h) := by
  have key : ∀ (k : Nat) (q : Nat × va_E), (rb_w b cA h)[k]? = some q → q.1 = b + k := by
    intro k q hq
    have hk : k < h.1 := by
      have := (List.getElem?_eq_some_iff.mp hq).1
      rw [rb_w_len] at this
      exact this
    rw [rb_w_get hk] at hq
    rw [← Option.some.inj hq]
  refine ⟨fun i j x y hx hy hxy => ?_, fun k q hq => ?_⟩
  · have h1 := key i x hx
    have h2 := key j y hy
    omega
  · have h1 := key k q hq
    omega
/-- two worlds apart: what one call leaves of the other's -/
theorem lw_apart {D : va_G} {cA : Nat → ClassId} {b1 b2 : Nat} {h g : rb_H} {H H1 : Heap} (hg : va_P D rb_cl (rb_w b2 cA g) H) (hap : b1 + h.1 ≤ b2 ∨ b2 + g.1 ≤ b1) (hk : ∀ q, q < H.size → ¬ va_A (rb_w b1 cA h) H.size q → H1[q]? = H[q]?) : va_P D rb_cl (rb_w b2 cA g) H1 := by
  refine hg.kept (fun k q hq => ?_)
  have hkl : k < g.1 := by
    have := (List.getElem?_eq_some_iff.mp hq).1
    rw [rb_w_len] at this
    exact this
  have hlt := (hg k q hq).lt
  have hq1 : q.1 = b2 + k := by
    rw [rb_w_get hkl] at hq
    rw [← Option.some.inj hq]
  refine hk q.1 hlt (fun hA => ?_)
  rcases hA with ⟨i, e9, hi⟩ | h9
  · have hil : i < h.1 := by
      have := (List.getElem?_eq_some_iff.mp hi).1
      rw [rb_w_len] at this
      exact this
    rw [rb_w_get hil] at hi
    have h8 : b1 + i = q.1 := congrArg Prod.fst (Option.some.inj hi)
    omega
  · omega
section LWK
variable {p : Program} {l : Launch} {e : Env} {s : State} {m : MethodId} {below : List Frame} {meth : Method} {c : Code} {H : Heap} {locs : List Loc} {Q : State → Prop} {b L : Nat} {xs : Nat → Int32} {D : va_G} {cA : Nat → ClassId} {hC hR : rb_H} {arr : Array Slot} {i : Int32}
set_option maxHeartbeats 4000000 in
set_option maxRecDepth 100000 in
theorem lw_case0 (S : CallFix p m c code 4 s #[Value.ref b] lw_tbl R_law) (hX : va_X b L xs s s.heap) (hbl : b < s.heap.size) (hK : va_K D rb_cl (rb_tys cA) s) (hl : lv_has arr 4 [(3, .int i), (2, .ref (s.heap.size + 166)), (1, .ref s.heap.size), (0, .ref b)]) (hI : lw_In D cA s hC hR H locs) (h1 : vp_in (i + 1) L) (h2 : vp_in (i + 2) L) {r : Int32} {hC' hR' : rb_H} (hc : rb_rel false 8 1 [.ref 0, .int (xs (i + 1).toNatClampNeg), .int (xs (i + 2).toNatClampNeg)] hC (some (.int r)) hC') (hr : rb_rel false 8 69 [.ref 0, .int (xs (i + 1).toNatClampNeg), .int (xs (i + 2).toNatClampNeg)] hR (some (.int r)) hR')
    (sC : hC'.1 = 166 ∧ hC'.2.1 = 1286 ∧ (∀ i, hC'.1 ≤ i → hC'.2.2 i = rb_blank) ∧ ∃ fs, hC'.2.2 0 = .inr (0, fs)) (sR : hR'.1 = 55 ∧ hR'.2.1 = 1603 ∧ (∀ i, hR'.1 ≤ i → hR'.2.2 i = rb_blank) ∧ ∃ fs, hR'.2.2 0 = .inr (7, fs))
    (kk : ∀ (H1 : Heap) (locs1 : List Loc), lw_In D cA s hC' hR' H1 locs1 → W p l e room_1 s m #[Value.ref b] below meth c H1 locs1 221 2889 Q (F0 m 664 arr [])) : W p l e room_1 s m #[Value.ref b] below meth c H locs 221 2889 Q (F0 m 120 arr []) := by
  obtain ⟨hx, hb, hml, hown, hts⟩ := S
  obtain ⟨hP1, hP2, hS, ⟨z1, z2, z3, fC, z4⟩, y1, y2, y3, fR, y4⟩ := hI
  have hbA : ¬ s.heap.size ≤ b := Nat.not_le.mpr hbl
  refine lv_aload_n hx hb (lw_d rfl) rfl (lv_at hl 2 rfl) ?_
  refine lv_aload_n hx hb (lw_d rfl) rfl (lv_at hl 3 rfl) ?_
  refine lv_iload_n hx hb (lw_d rfl) rfl (lv_at hl 0 rfl) ?_
  refine lv_iconst (v := 1) hx hb (lw_d rfl) (by decide) ?_
  refine lv_iadd hx hb (lw_d rfl) ?_
  refine va_sld (A := fun q => s.heap.size ≤ q) hx hb hX hbl hbA hS h1 (lw_d rfl) ?_
  refine lv_aload_n hx hb (lw_d rfl) rfl (lv_at hl 3 rfl) ?_
  refine lv_iload_n hx hb (lw_d rfl) rfl (lv_at hl 0 rfl) ?_
  refine lv_iconst (v := 2) hx hb (lw_d rfl) (by decide) ?_
  refine lv_iadd hx hb (lw_d rfl) ?_
  refine va_sld (A := fun q => s.heap.size ≤ q) hx hb hX hbl hbA hS h2 (lw_d rfl) ?_
  refine lw_call (k := 1) (np := 2) (as := [.int (xs (i + 1).toNatClampNeg), .int (xs (i + 2).toNatClampNeg)]) (rest := []) (bb := s.heap.size) (A := fun q => s.heap.size ≤ q) ⟨hx, hb, hml, hown, hts⟩ hl.1 (lw_d rfl) (by decide) rfl rfl lw_m1 lw_n1 lw_s1 lw_iC ⟨by decide +kernel, by decide +kernel, by decide +kernel⟩ rfl (by decide) z4 hc ⟨sC.1.trans z1.symm, sC.2.1.trans z2.symm⟩ z3 hK hP1 (lw_D (Nat.le_refl _)) hS (fun q h9 => h9) (by decide) ⟨by decide, by decide⟩ (fun H1 locs1 hP1 hD1 hS hk1 hz1 => ?_)
  have hP2 := lw_apart hP2 (Or.inl (by rw [z1]; exact Nat.le_refl _)) hk1
  refine lv_aload_n hx hb (lw_d rfl) rfl (lv_at hl 1 rfl) ?_
  refine lv_aload_n hx hb (lw_d rfl) rfl (lv_at hl 3 rfl) ?_
  refine lv_iload_n hx hb (lw_d rfl) rfl (lv_at hl 0 rfl) ?_
  refine lv_iconst (v := 1) hx hb (lw_d rfl) (by decide) ?_
  refine lv_iadd hx hb (lw_d rfl) ?_
  refine va_sld (A := fun q => s.heap.size ≤ q) hx hb hX hbl hbA hS h1 (lw_d rfl) ?_
  refine lv_aload_n hx hb (lw_d rfl) rfl (lv_at hl 3 rfl) ?_
  refine lv_iload_n hx hb (lw_d rfl) rfl (lv_at hl 0 rfl) ?_
  refine lv_iconst (v := 2) hx hb (lw_d rfl) (by decide) ?_
  refine lv_iadd hx hb (lw_d rfl) ?_
  refine va_sld (A := fun q => s.heap.size ≤ q) hx hb hX hbl hbA hS h2 (lw_d rfl) ?_
  refine lw_call (k := 69) (np := 2) (as := [.int (xs (i + 1).toNatClampNeg), .int (xs (i + 2).toNatClampNeg)]) (rest := [.int r]) (bb := s.heap.size + 166) (A := fun q => s.heap.size ≤ q) ⟨hx, hb, hml, hown, hts⟩ hl.1 (lw_d rfl) (by decide) rfl rfl lw_m69 lw_n69 lw_s69 lw_iR ⟨by decide +kernel, by decide +kernel, by decide +kernel⟩ rfl (by decide) y4 hr ⟨sR.1.trans y1.symm, sR.2.1.trans y2.symm⟩ y3 hK hP2 (lw_D (Nat.le_add_right _ _)) hS (fun q h9 => h9) (Nat.le_of_ble_eq_true rfl) ⟨by decide, by decide⟩ (fun H2 locs2 hP2 hD2 hS hk2 hz2 => ?_)
  have hP1 := lw_apart hP1 (Or.inr (by rw [sC.1]; exact Nat.le_refl _)) hk2
  exact lv_icmp_eq hx hb (lw_d rfl) (tgt := 664) (by decide) (fun _ => kk H2 locs2 ⟨hP1, hP2, hS, sC, sR⟩) (fun h9 => absurd rfl h9)
set_option maxHeartbeats 4000000 in
set_option maxRecDepth 100000 in
theorem lw_case1 (S : CallFix p m c code 4 s #[Value.ref b] lw_tbl R_law) (hX : va_X b L xs s s.heap) (hbl : b < s.heap.size) (hK : va_K D rb_cl (rb_tys cA) s) (hl : lv_has arr 4 [(3, .int i), (2, .ref (s.heap.size + 166)), (1, .ref s.heap.size), (0, .ref b)]) (hI : lw_In D cA s hC hR H locs) (h1 : vp_in (i + 1) L) (h2 : vp_in (i + 2) L) (h3 : vp_in (i + 3) L) {r : Int32} {hC' hR' : rb_H} (hc : rb_rel false 8 2 [.ref 0, .int (xs (i + 1).toNatClampNeg), .int (xs (i + 2).toNatClampNeg), .int (xs (i + 3).toNatClampNeg)] hC (some (.int r)) hC') (hr : rb_rel false 8 70 [.ref 0, .int (xs (i + 1).toNatClampNeg), .int (xs (i + 2).toNatClampNeg), .int (xs (i + 3).toNatClampNeg)] hR (some (.int r)) hR')
    (sC : hC'.1 = 166 ∧ hC'.2.1 = 1286 ∧ (∀ i, hC'.1 ≤ i → hC'.2.2 i = rb_blank) ∧ ∃ fs, hC'.2.2 0 = .inr (0, fs)) (sR : hR'.1 = 55 ∧ hR'.2.1 = 1603 ∧ (∀ i, hR'.1 ≤ i → hR'.2.2 i = rb_blank) ∧ ∃ fs, hR'.2.2 0 = .inr (7, fs))
    (kk : ∀ (H1 : Heap) (locs1 : List Loc), lw_In D cA s hC' hR' H1 locs1 → W p l e room_1 s m #[Value.ref b] below meth c H1 locs1 221 2889 Q (F0 m 664 arr [])) : W p l e room_1 s m #[Value.ref b] below meth c H locs 221 2889 Q (F0 m 153 arr []) := by
  obtain ⟨hx, hb, hml, hown, hts⟩ := S
  obtain ⟨hP1, hP2, hS, ⟨z1, z2, z3, fC, z4⟩, y1, y2, y3, fR, y4⟩ := hI
  have hbA : ¬ s.heap.size ≤ b := Nat.not_le.mpr hbl
  refine lv_aload_n hx hb (lw_d rfl) rfl (lv_at hl 2 rfl) ?_
  refine lv_aload_n hx hb (lw_d rfl) rfl (lv_at hl 3 rfl) ?_
  refine lv_iload_n hx hb (lw_d rfl) rfl (lv_at hl 0 rfl) ?_
  refine lv_iconst (v := 1) hx hb (lw_d rfl) (by decide) ?_
  refine lv_iadd hx hb (lw_d rfl) ?_
  refine va_sld (A := fun q => s.heap.size ≤ q) hx hb hX hbl hbA hS h1 (lw_d rfl) ?_
  refine lv_aload_n hx hb (lw_d rfl) rfl (lv_at hl 3 rfl) ?_
  refine lv_iload_n hx hb (lw_d rfl) rfl (lv_at hl 0 rfl) ?_
  refine lv_iconst (v := 2) hx hb (lw_d rfl) (by decide) ?_
  refine lv_iadd hx hb (lw_d rfl) ?_
  refine va_sld (A := fun q => s.heap.size ≤ q) hx hb hX hbl hbA hS h2 (lw_d rfl) ?_
  refine lv_aload_n hx hb (lw_d rfl) rfl (lv_at hl 3 rfl) ?_
  refine lv_iload_n hx hb (lw_d rfl) rfl (lv_at hl 0 rfl) ?_
  refine lv_iconst (v := 3) hx hb (lw_d rfl) (by decide) ?_
  refine lv_iadd hx hb (lw_d rfl) ?_
  refine va_sld (A := fun q => s.heap.size ≤ q) hx hb hX hbl hbA hS h3 (lw_d rfl) ?_
  refine lw_call (k := 2) (np := 3) (as := [.int (xs (i + 1).toNatClampNeg), .int (xs (i + 2).toNatClampNeg), .int (xs (i + 3).toNatClampNeg)]) (rest := []) (bb := s.heap.size) (A := fun q => s.heap.size ≤ q) ⟨hx, hb, hml, hown, hts⟩ hl.1 (lw_d rfl) (by decide) rfl rfl lw_m2 lw_n2 lw_s2 lw_iC ⟨by decide +kernel, by decide +kernel, by decide +kernel⟩ rfl (by decide) z4 hc ⟨sC.1.trans z1.symm, sC.2.1.trans z2.symm⟩ z3 hK hP1 (lw_D (Nat.le_refl _)) hS (fun q h9 => h9) (by decide) ⟨by decide, by decide⟩ (fun H1 locs1 hP1 hD1 hS hk1 hz1 => ?_)
  have hP2 := lw_apart hP2 (Or.inl (by rw [z1]; exact Nat.le_refl _)) hk1
  refine lv_aload_n hx hb (lw_d rfl) rfl (lv_at hl 1 rfl) ?_
  refine lv_aload_n hx hb (lw_d rfl) rfl (lv_at hl 3 rfl) ?_
  refine lv_iload_n hx hb (lw_d rfl) rfl (lv_at hl 0 rfl) ?_
  refine lv_iconst (v := 1) hx hb (lw_d rfl) (by decide) ?_
  refine lv_iadd hx hb (lw_d rfl) ?_
  refine va_sld (A := fun q => s.heap.size ≤ q) hx hb hX hbl hbA hS h1 (lw_d rfl) ?_
  refine lv_aload_n hx hb (lw_d rfl) rfl (lv_at hl 3 rfl) ?_
  refine lv_iload_n hx hb (lw_d rfl) rfl (lv_at hl 0 rfl) ?_
  refine lv_iconst (v := 2) hx hb (lw_d rfl) (by decide) ?_
  refine lv_iadd hx hb (lw_d rfl) ?_
  refine va_sld (A := fun q => s.heap.size ≤ q) hx hb hX hbl hbA hS h2 (lw_d rfl) ?_
  refine lv_aload_n hx hb (lw_d rfl) rfl (lv_at hl 3 rfl) ?_
  refine lv_iload_n hx hb (lw_d rfl) rfl (lv_at hl 0 rfl) ?_
  refine lv_iconst (v := 3) hx hb (lw_d rfl) (by decide) ?_
  refine lv_iadd hx hb (lw_d rfl) ?_
  refine va_sld (A := fun q => s.heap.size ≤ q) hx hb hX hbl hbA hS h3 (lw_d rfl) ?_
  refine lw_call (k := 70) (np := 3) (as := [.int (xs (i + 1).toNatClampNeg), .int (xs (i + 2).toNatClampNeg), .int (xs (i + 3).toNatClampNeg)]) (rest := [.int r]) (bb := s.heap.size + 166) (A := fun q => s.heap.size ≤ q) ⟨hx, hb, hml, hown, hts⟩ hl.1 (lw_d rfl) (by decide) rfl rfl lw_m70 lw_n70 lw_s70 lw_iR ⟨by decide +kernel, by decide +kernel, by decide +kernel⟩ rfl (by decide) y4 hr ⟨sR.1.trans y1.symm, sR.2.1.trans y2.symm⟩ y3 hK hP2 (lw_D (Nat.le_add_right _ _)) hS (fun q h9 => h9) (Nat.le_of_ble_eq_true rfl) ⟨by decide, by decide⟩ (fun H2 locs2 hP2 hD2 hS hk2 hz2 => ?_)
  have hP1 := lw_apart hP1 (Or.inr (by rw [sC.1]; exact Nat.le_refl _)) hk2
  exact lv_icmp_eq hx hb (lw_d rfl) (tgt := 664) (by decide) (fun _ => kk H2 locs2 ⟨hP1, hP2, hS, sC, sR⟩) (fun h9 => absurd rfl h9)
set_option maxHeartbeats 4000000 in
set_option maxRecDepth 100000 in
theorem lw_case2 (S : CallFix p m c code 4 s #[Value.ref b] lw_tbl R_law) (hX : va_X b L xs s s.heap) (hbl : b < s.heap.size) (hK : va_K D rb_cl (rb_tys cA) s) (hl : lv_has arr 4 [(3, .int i), (2, .ref (s.heap.size + 166)), (1, .ref s.heap.size), (0, .ref b)]) (hI : lw_In D cA s hC hR H locs) (h1 : vp_in (i + 1) L) {r : Int32} {hC' hR' : rb_H} (hc : rb_rel false 8 3 [.ref 0, .int (xs (i + 1).toNatClampNeg)] hC (some (.int r)) hC') (hr : rb_rel false 8 72 [.ref 0, .int (xs (i + 1).toNatClampNeg)] hR (some (.int r)) hR')
    (sC : hC'.1 = 166 ∧ hC'.2.1 = 1286 ∧ (∀ i, hC'.1 ≤ i → hC'.2.2 i = rb_blank) ∧ ∃ fs, hC'.2.2 0 = .inr (0, fs)) (sR : hR'.1 = 55 ∧ hR'.2.1 = 1603 ∧ (∀ i, hR'.1 ≤ i → hR'.2.2 i = rb_blank) ∧ ∃ fs, hR'.2.2 0 = .inr (7, fs))
    (kk : ∀ (H1 : Heap) (locs1 : List Loc), lw_In D cA s hC' hR' H1 locs1 → W p l e room_1 s m #[Value.ref b] below meth c H1 locs1 221 2889 Q (F0 m 664 arr [])) : W p l e room_1 s m #[Value.ref b] below meth c H locs 221 2889 Q (F0 m 196 arr []) := by
  obtain ⟨hx, hb, hml, hown, hts⟩ := S
  obtain ⟨hP1, hP2, hS, ⟨z1, z2, z3, fC, z4⟩, y1, y2, y3, fR, y4⟩ := hI
  have hbA : ¬ s.heap.size ≤ b := Nat.not_le.mpr hbl
  refine lv_aload_n hx hb (lw_d rfl) rfl (lv_at hl 2 rfl) ?_
  refine lv_aload_n hx hb (lw_d rfl) rfl (lv_at hl 3 rfl) ?_
  refine lv_iload_n hx hb (lw_d rfl) rfl (lv_at hl 0 rfl) ?_
  refine lv_iconst (v := 1) hx hb (lw_d rfl) (by decide) ?_
  refine lv_iadd hx hb (lw_d rfl) ?_
  refine va_sld (A := fun q => s.heap.size ≤ q) hx hb hX hbl hbA hS h1 (lw_d rfl) ?_
  refine lw_call (k := 3) (np := 1) (as := [.int (xs (i + 1).toNatClampNeg)]) (rest := []) (bb := s.heap.size) (A := fun q => s.heap.size ≤ q) ⟨hx, hb, hml, hown, hts⟩ hl.1 (lw_d rfl) (by decide) rfl rfl lw_m3 lw_n3 lw_s3 lw_iC ⟨by decide +kernel, by decide +kernel, by decide +kernel⟩ rfl (by decide) z4 hc ⟨sC.1.trans z1.symm, sC.2.1.trans z2.symm⟩ z3 hK hP1 (lw_D (Nat.le_refl _)) hS (fun q h9 => h9) (by decide) ⟨by decide, by decide⟩ (fun H1 locs1 hP1 hD1 hS hk1 hz1 => ?_)
  have hP2 := lw_apart hP2 (Or.inl (by rw [z1]; exact Nat.le_refl _)) hk1
  refine lv_aload_n hx hb (lw_d rfl) rfl (lv_at hl 1 rfl) ?_
  refine lv_aload_n hx hb (lw_d rfl) rfl (lv_at hl 3 rfl) ?_
  refine lv_iload_n hx hb (lw_d rfl) rfl (lv_at hl 0 rfl) ?_
  refine lv_iconst (v := 1) hx hb (lw_d rfl) (by decide) ?_
  refine lv_iadd hx hb (lw_d rfl) ?_
  refine va_sld (A := fun q => s.heap.size ≤ q) hx hb hX hbl hbA hS h1 (lw_d rfl) ?_
  refine lw_call (k := 72) (np := 1) (as := [.int (xs (i + 1).toNatClampNeg)]) (rest := [.int r]) (bb := s.heap.size + 166) (A := fun q => s.heap.size ≤ q) ⟨hx, hb, hml, hown, hts⟩ hl.1 (lw_d rfl) (by decide) rfl rfl lw_m72 lw_n72 lw_s72 lw_iR ⟨by decide +kernel, by decide +kernel, by decide +kernel⟩ rfl (by decide) y4 hr ⟨sR.1.trans y1.symm, sR.2.1.trans y2.symm⟩ y3 hK hP2 (lw_D (Nat.le_add_right _ _)) hS (fun q h9 => h9) (Nat.le_of_ble_eq_true rfl) ⟨by decide, by decide⟩ (fun H2 locs2 hP2 hD2 hS hk2 hz2 => ?_)
  have hP1 := lw_apart hP1 (Or.inr (by rw [sC.1]; exact Nat.le_refl _)) hk2
  exact lv_icmp_eq hx hb (lw_d rfl) (tgt := 664) (by decide) (fun _ => kk H2 locs2 ⟨hP1, hP2, hS, sC, sR⟩) (fun h9 => absurd rfl h9)
set_option maxHeartbeats 4000000 in
set_option maxRecDepth 100000 in
theorem lw_case3 (S : CallFix p m c code 4 s #[Value.ref b] lw_tbl R_law) (hX : va_X b L xs s s.heap) (hbl : b < s.heap.size) (hK : va_K D rb_cl (rb_tys cA) s) (hl : lv_has arr 4 [(3, .int i), (2, .ref (s.heap.size + 166)), (1, .ref s.heap.size), (0, .ref b)]) (hI : lw_In D cA s hC hR H locs) (h1 : vp_in (i + 1) L) {r : Int32} {hC' hR' : rb_H} (hc : rb_rel false 8 4 [.ref 0, .int (xs (i + 1).toNatClampNeg)] hC (some (.int r)) hC') (hr : rb_rel false 8 73 [.ref 0, .int (xs (i + 1).toNatClampNeg)] hR (some (.int r)) hR')
    (sC : hC'.1 = 166 ∧ hC'.2.1 = 1286 ∧ (∀ i, hC'.1 ≤ i → hC'.2.2 i = rb_blank) ∧ ∃ fs, hC'.2.2 0 = .inr (0, fs)) (sR : hR'.1 = 55 ∧ hR'.2.1 = 1603 ∧ (∀ i, hR'.1 ≤ i → hR'.2.2 i = rb_blank) ∧ ∃ fs, hR'.2.2 0 = .inr (7, fs))
    (kk : ∀ (H1 : Heap) (locs1 : List Loc), lw_In D cA s hC' hR' H1 locs1 → W p l e room_1 s m #[Value.ref b] below meth c H1 locs1 221 2889 Q (F0 m 664 arr [])) : W p l e room_1 s m #[Value.ref b] below meth c H locs 221 2889 Q (F0 m 219 arr []) := by
  obtain ⟨hx, hb, hml, hown, hts⟩ := S
  obtain ⟨hP1, hP2, hS, ⟨z1, z2, z3, fC, z4⟩, y1, y2, y3, fR, y4⟩ := hI
  have hbA : ¬ s.heap.size ≤ b := Nat.not_le.mpr hbl
  refine lv_aload_n hx hb (lw_d rfl) rfl (lv_at hl 2 rfl) ?_
  refine lv_aload_n hx hb (lw_d rfl) rfl (lv_at hl 3 rfl) ?_
  refine lv_iload_n hx hb (lw_d rfl) rfl (lv_at hl 0 rfl) ?_
  refine lv_iconst (v := 1) hx hb (lw_d rfl) (by decide) ?_
  refine lv_iadd hx hb (lw_d rfl) ?_
  refine va_sld (A := fun q => s.heap.size ≤ q) hx hb hX hbl hbA hS h1 (lw_d rfl) ?_
  refine lw_call (k := 4) (np := 1) (as := [.int (xs (i + 1).toNatClampNeg)]) (rest := []) (bb := s.heap.size) (A := fun q => s.heap.size ≤ q) ⟨hx, hb, hml, hown, hts⟩ hl.1 (lw_d rfl) (by decide) rfl rfl lw_m4 lw_n4 lw_s4 lw_iC ⟨by decide +kernel, by decide +kernel, by decide +kernel⟩ rfl (by decide) z4 hc ⟨sC.1.trans z1.symm, sC.2.1.trans z2.symm⟩ z3 hK hP1 (lw_D (Nat.le_refl _)) hS (fun q h9 => h9) (by decide) ⟨by decide, by decide⟩ (fun H1 locs1 hP1 hD1 hS hk1 hz1 => ?_)
  have hP2 := lw_apart hP2 (Or.inl (by rw [z1]; exact Nat.le_refl _)) hk1
  refine lv_aload_n hx hb (lw_d rfl) rfl (lv_at hl 1 rfl) ?_
  refine lv_aload_n hx hb (lw_d rfl) rfl (lv_at hl 3 rfl) ?_
  refine lv_iload_n hx hb (lw_d rfl) rfl (lv_at hl 0 rfl) ?_
  refine lv_iconst (v := 1) hx hb (lw_d rfl) (by decide) ?_
  refine lv_iadd hx hb (lw_d rfl) ?_
  refine va_sld (A := fun q => s.heap.size ≤ q) hx hb hX hbl hbA hS h1 (lw_d rfl) ?_
  refine lw_call (k := 73) (np := 1) (as := [.int (xs (i + 1).toNatClampNeg)]) (rest := [.int r]) (bb := s.heap.size + 166) (A := fun q => s.heap.size ≤ q) ⟨hx, hb, hml, hown, hts⟩ hl.1 (lw_d rfl) (by decide) rfl rfl lw_m73 lw_n73 lw_s73 lw_iR ⟨by decide +kernel, by decide +kernel, by decide +kernel⟩ rfl (by decide) y4 hr ⟨sR.1.trans y1.symm, sR.2.1.trans y2.symm⟩ y3 hK hP2 (lw_D (Nat.le_add_right _ _)) hS (fun q h9 => h9) (Nat.le_of_ble_eq_true rfl) ⟨by decide, by decide⟩ (fun H2 locs2 hP2 hD2 hS hk2 hz2 => ?_)
  have hP1 := lw_apart hP1 (Or.inr (by rw [sC.1]; exact Nat.le_refl _)) hk2
  exact lv_icmp_eq hx hb (lw_d rfl) (tgt := 664) (by decide) (fun _ => kk H2 locs2 ⟨hP1, hP2, hS, sC, sR⟩) (fun h9 => absurd rfl h9)
set_option maxHeartbeats 4000000 in
set_option maxRecDepth 100000 in
theorem lw_case4 (S : CallFix p m c code 4 s #[Value.ref b] lw_tbl R_law) (hX : va_X b L xs s s.heap) (hbl : b < s.heap.size) (hK : va_K D rb_cl (rb_tys cA) s) (hl : lv_has arr 4 [(3, .int i), (2, .ref (s.heap.size + 166)), (1, .ref s.heap.size), (0, .ref b)]) (hI : lw_In D cA s hC hR H locs) (h1 : vp_in (i + 1) L) (h2 : vp_in (i + 2) L) {r : Int32} {hC' hR' : rb_H} (hc : rb_rel false 8 5 [.ref 0, .int (xs (i + 1).toNatClampNeg), .int (xs (i + 2).toNatClampNeg)] hC (some (.int r)) hC') (hr : rb_rel false 8 74 [.ref 0, .int (xs (i + 1).toNatClampNeg), .int (xs (i + 2).toNatClampNeg)] hR (some (.int r)) hR')
    (sC : hC'.1 = 166 ∧ hC'.2.1 = 1286 ∧ (∀ i, hC'.1 ≤ i → hC'.2.2 i = rb_blank) ∧ ∃ fs, hC'.2.2 0 = .inr (0, fs)) (sR : hR'.1 = 55 ∧ hR'.2.1 = 1603 ∧ (∀ i, hR'.1 ≤ i → hR'.2.2 i = rb_blank) ∧ ∃ fs, hR'.2.2 0 = .inr (7, fs))
    (kk : ∀ (H1 : Heap) (locs1 : List Loc), lw_In D cA s hC' hR' H1 locs1 → W p l e room_1 s m #[Value.ref b] below meth c H1 locs1 221 2889 Q (F0 m 664 arr [])) : W p l e room_1 s m #[Value.ref b] below meth c H locs 221 2889 Q (F0 m 242 arr []) := by
  obtain ⟨hx, hb, hml, hown, hts⟩ := S
  obtain ⟨hP1, hP2, hS, ⟨z1, z2, z3, fC, z4⟩, y1, y2, y3, fR, y4⟩ := hI
  have hbA : ¬ s.heap.size ≤ b := Nat.not_le.mpr hbl
  refine lv_aload_n hx hb (lw_d rfl) rfl (lv_at hl 2 rfl) ?_
  refine lv_aload_n hx hb (lw_d rfl) rfl (lv_at hl 3 rfl) ?_
  refine lv_iload_n hx hb (lw_d rfl) rfl (lv_at hl 0 rfl) ?_
  refine lv_iconst (v := 1) hx hb (lw_d rfl) (by decide) ?_
  refine lv_iadd hx hb (lw_d rfl) ?_
  refine va_sld (A := fun q => s.heap.size ≤ q) hx hb hX hbl hbA hS h1 (lw_d rfl) ?_
  refine lv_aload_n hx hb (lw_d rfl) rfl (lv_at hl 3 rfl) ?_
  refine lv_iload_n hx hb (lw_d rfl) rfl (lv_at hl 0 rfl) ?_
  refine lv_iconst (v := 2) hx hb (lw_d rfl) (by decide) ?_
  refine lv_iadd hx hb (lw_d rfl) ?_
  refine va_sld (A := fun q => s.heap.size ≤ q) hx hb hX hbl hbA hS h2 (lw_d rfl) ?_
  refine lw_call (k := 5) (np := 2) (as := [.int (xs (i + 1).toNatClampNeg), .int (xs (i + 2).toNatClampNeg)]) (rest := []) (bb := s.heap.size) (A := fun q => s.heap.size ≤ q) ⟨hx, hb, hml, hown, hts⟩ hl.1 (lw_d rfl) (by decide) rfl rfl lw_m5 lw_n5 lw_s5 lw_iC ⟨by decide +kernel, by decide +kernel, by decide +kernel⟩ rfl (by decide) z4 hc ⟨sC.1.trans z1.symm, sC.2.1.trans z2.symm⟩ z3 hK hP1 (lw_D (Nat.le_refl _)) hS (fun q h9 => h9) (by decide) ⟨by decide, by decide⟩ (fun H1 locs1 hP1 hD1 hS hk1 hz1 => ?_)
  have hP2 := lw_apart hP2 (Or.inl (by rw [z1]; exact Nat.le_refl _)) hk1
  refine lv_aload_n hx hb (lw_d rfl) rfl (lv_at hl 1 rfl) ?_
  refine lv_aload_n hx hb (lw_d rfl) rfl (lv_at hl 3 rfl) ?_
  refine lv_iload_n hx hb (lw_d rfl) rfl (lv_at hl 0 rfl) ?_
  refine lv_iconst (v := 1) hx hb (lw_d rfl) (by decide) ?_
  refine lv_iadd hx hb (lw_d rfl) ?_
  refine va_sld (A := fun q => s.heap.size ≤ q) hx hb hX hbl hbA hS h1 (lw_d rfl) ?_
  refine lv_aload_n hx hb (lw_d rfl) rfl (lv_at hl 3 rfl) ?_
  refine lv_iload_n hx hb (lw_d rfl) rfl (lv_at hl 0 rfl) ?_
  refine lv_iconst (v := 2) hx hb (lw_d rfl) (by decide) ?_
  refine lv_iadd hx hb (lw_d rfl) ?_
  refine va_sld (A := fun q => s.heap.size ≤ q) hx hb hX hbl hbA hS h2 (lw_d rfl) ?_
  refine lw_call (k := 74) (np := 2) (as := [.int (xs (i + 1).toNatClampNeg), .int (xs (i + 2).toNatClampNeg)]) (rest := [.int r]) (bb := s.heap.size + 166) (A := fun q => s.heap.size ≤ q) ⟨hx, hb, hml, hown, hts⟩ hl.1 (lw_d rfl) (by decide) rfl rfl lw_m74 lw_n74 lw_s74 lw_iR ⟨by decide +kernel, by decide +kernel, by decide +kernel⟩ rfl (by decide) y4 hr ⟨sR.1.trans y1.symm, sR.2.1.trans y2.symm⟩ y3 hK hP2 (lw_D (Nat.le_add_right _ _)) hS (fun q h9 => h9) (Nat.le_of_ble_eq_true rfl) ⟨by decide, by decide⟩ (fun H2 locs2 hP2 hD2 hS hk2 hz2 => ?_)
  have hP1 := lw_apart hP1 (Or.inr (by rw [sC.1]; exact Nat.le_refl _)) hk2
  exact lv_icmp_eq hx hb (lw_d rfl) (tgt := 664) (by decide) (fun _ => kk H2 locs2 ⟨hP1, hP2, hS, sC, sR⟩) (fun h9 => absurd rfl h9)
set_option maxHeartbeats 4000000 in
set_option maxRecDepth 100000 in
theorem lw_case5 (S : CallFix p m c code 4 s #[Value.ref b] lw_tbl R_law) (hX : va_X b L xs s s.heap) (hbl : b < s.heap.size) (hK : va_K D rb_cl (rb_tys cA) s) (hl : lv_has arr 4 [(3, .int i), (2, .ref (s.heap.size + 166)), (1, .ref s.heap.size), (0, .ref b)]) (hI : lw_In D cA s hC hR H locs) (h1 : vp_in (i + 1) L) (h2 : vp_in (i + 2) L) {r : Int32} {hC' hR' : rb_H} (hc : rb_rel false 8 6 [.ref 0, .int (xs (i + 1).toNatClampNeg), .int (xs (i + 2).toNatClampNeg)] hC (some (.int r)) hC') (hr : rb_rel false 8 75 [.ref 0, .int (xs (i + 1).toNatClampNeg), .int (xs (i + 2).toNatClampNeg)] hR (some (.int r)) hR')
    (sC : hC'.1 = 166 ∧ hC'.2.1 = 1286 ∧ (∀ i, hC'.1 ≤ i → hC'.2.2 i = rb_blank) ∧ ∃ fs, hC'.2.2 0 = .inr (0, fs)) (sR : hR'.1 = 55 ∧ hR'.2.1 = 1603 ∧ (∀ i, hR'.1 ≤ i → hR'.2.2 i = rb_blank) ∧ ∃ fs, hR'.2.2 0 = .inr (7, fs))
    (kk : ∀ (H1 : Heap) (locs1 : List Loc), lw_In D cA s hC' hR' H1 locs1 → W p l e room_1 s m #[Value.ref b] below meth c H1 locs1 221 2889 Q (F0 m 664 arr [])) : W p l e room_1 s m #[Value.ref b] below meth c H locs 221 2889 Q (F0 m 275 arr []) := by
  obtain ⟨hx, hb, hml, hown, hts⟩ := S
  obtain ⟨hP1, hP2, hS, ⟨z1, z2, z3, fC, z4⟩, y1, y2, y3, fR, y4⟩ := hI
  have hbA : ¬ s.heap.size ≤ b := Nat.not_le.mpr hbl
  refine lv_aload_n hx hb (lw_d rfl) rfl (lv_at hl 2 rfl) ?_
  refine lv_aload_n hx hb (lw_d rfl) rfl (lv_at hl 3 rfl) ?_
  refine lv_iload_n hx hb (lw_d rfl) rfl (lv_at hl 0 rfl) ?_
  refine lv_iconst (v := 1) hx hb (lw_d rfl) (by decide) ?_
  refine lv_iadd hx hb (lw_d rfl) ?_
  refine va_sld (A := fun q => s.heap.size ≤ q) hx hb hX hbl hbA hS h1 (lw_d rfl) ?_
  refine lv_aload_n hx hb (lw_d rfl) rfl (lv_at hl 3 rfl) ?_
  refine lv_iload_n hx hb (lw_d rfl) rfl (lv_at hl 0 rfl) ?_
  refine lv_iconst (v := 2) hx hb (lw_d rfl) (by decide) ?_
  refine lv_iadd hx hb (lw_d rfl) ?_
  refine va_sld (A := fun q => s.heap.size ≤ q) hx hb hX hbl hbA hS h2 (lw_d rfl) ?_
  refine lw_call (k := 6) (np := 2) (as := [.int (xs (i + 1).toNatClampNeg), .int (xs (i + 2).toNatClampNeg)]) (rest := []) (bb := s.heap.size) (A := fun q => s.heap.size ≤ q) ⟨hx, hb, hml, hown, hts⟩ hl.1 (lw_d rfl) (by decide) rfl rfl lw_m6 lw_n6 lw_s6 lw_iC ⟨by decide +kernel, by decide +kernel, by decide +kernel⟩ rfl (by decide) z4 hc ⟨sC.1.trans z1.symm, sC.2.1.trans z2.symm⟩ z3 hK hP1 (lw_D (Nat.le_refl _)) hS (fun q h9 => h9) (by decide) ⟨by decide, by decide⟩ (fun H1 locs1 hP1 hD1 hS hk1 hz1 => ?_)
  have hP2 := lw_apart hP2 (Or.inl (by rw [z1]; exact Nat.le_refl _)) hk1
  refine lv_aload_n hx hb (lw_d rfl) rfl (lv_at hl 1 rfl) ?_
  refine lv_aload_n hx hb (lw_d rfl) rfl (lv_at hl 3 rfl) ?_
  refine lv_iload_n hx hb (lw_d rfl) rfl (lv_at hl 0 rfl) ?_
  refine lv_iconst (v := 1) hx hb (lw_d rfl) (by decide) ?_
  refine lv_iadd hx hb (lw_d rfl) ?_
  refine va_sld (A := fun q => s.heap.size ≤ q) hx hb hX hbl hbA hS h1 (lw_d rfl) ?_
  refine lv_aload_n hx hb (lw_d rfl) rfl (lv_at hl 3 rfl) ?_
  refine lv_iload_n hx hb (lw_d rfl) rfl (lv_at hl 0 rfl) ?_
  refine lv_iconst (v := 2) hx hb (lw_d rfl) (by decide) ?_
  refine lv_iadd hx hb (lw_d rfl) ?_
  refine va_sld (A := fun q => s.heap.size ≤ q) hx hb hX hbl hbA hS h2 (lw_d rfl) ?_
  refine lw_call (k := 75) (np := 2) (as := [.int (xs (i + 1).toNatClampNeg), .int (xs (i + 2).toNatClampNeg)]) (rest := [.int r]) (bb := s.heap.size + 166) (A := fun q => s.heap.size ≤ q) ⟨hx, hb, hml, hown, hts⟩ hl.1 (lw_d rfl) (by decide) rfl rfl lw_m75 lw_n75 lw_s75 lw_iR ⟨by decide +kernel, by decide +kernel, by decide +kernel⟩ rfl (by decide) y4 hr ⟨sR.1.trans y1.symm, sR.2.1.trans y2.symm⟩ y3 hK hP2 (lw_D (Nat.le_add_right _ _)) hS (fun q h9 => h9) (Nat.le_of_ble_eq_true rfl) ⟨by decide, by decide⟩ (fun H2 locs2 hP2 hD2 hS hk2 hz2 => ?_)
  have hP1 := lw_apart hP1 (Or.inr (by rw [sC.1]; exact Nat.le_refl _)) hk2
  exact lv_icmp_eq hx hb (lw_d rfl) (tgt := 664) (by decide) (fun _ => kk H2 locs2 ⟨hP1, hP2, hS, sC, sR⟩) (fun h9 => absurd rfl h9)
set_option maxHeartbeats 4000000 in
set_option maxRecDepth 100000 in
theorem lw_case6 (S : CallFix p m c code 4 s #[Value.ref b] lw_tbl R_law) (hX : va_X b L xs s s.heap) (hbl : b < s.heap.size) (hK : va_K D rb_cl (rb_tys cA) s) (hl : lv_has arr 4 [(3, .int i), (2, .ref (s.heap.size + 166)), (1, .ref s.heap.size), (0, .ref b)]) (hI : lw_In D cA s hC hR H locs) (h1 : vp_in (i + 1) L) (h2 : vp_in (i + 2) L) {r : Int32} {hC' hR' : rb_H} (hc : rb_rel false 8 7 [.ref 0, .int (xs (i + 1).toNatClampNeg), .int (xs (i + 2).toNatClampNeg)] hC (some (.int r)) hC') (hr : rb_rel false 8 76 [.ref 0, .int (xs (i + 1).toNatClampNeg), .int (xs (i + 2).toNatClampNeg)] hR (some (.int r)) hR')
    (sC : hC'.1 = 166 ∧ hC'.2.1 = 1286 ∧ (∀ i, hC'.1 ≤ i → hC'.2.2 i = rb_blank) ∧ ∃ fs, hC'.2.2 0 = .inr (0, fs)) (sR : hR'.1 = 55 ∧ hR'.2.1 = 1603 ∧ (∀ i, hR'.1 ≤ i → hR'.2.2 i = rb_blank) ∧ ∃ fs, hR'.2.2 0 = .inr (7, fs))
    (kk : ∀ (H1 : Heap) (locs1 : List Loc), lw_In D cA s hC' hR' H1 locs1 → W p l e room_1 s m #[Value.ref b] below meth c H1 locs1 221 2889 Q (F0 m 664 arr [])) : W p l e room_1 s m #[Value.ref b] below meth c H locs 221 2889 Q (F0 m 308 arr []) := by
  obtain ⟨hx, hb, hml, hown, hts⟩ := S
  obtain ⟨hP1, hP2, hS, ⟨z1, z2, z3, fC, z4⟩, y1, y2, y3, fR, y4⟩ := hI
  have hbA : ¬ s.heap.size ≤ b := Nat.not_le.mpr hbl
  refine lv_aload_n hx hb (lw_d rfl) rfl (lv_at hl 2 rfl) ?_
  refine lv_aload_n hx hb (lw_d rfl) rfl (lv_at hl 3 rfl) ?_
  refine lv_iload_n hx hb (lw_d rfl) rfl (lv_at hl 0 rfl) ?_
  refine lv_iconst (v := 1) hx hb (lw_d rfl) (by decide) ?_
  refine lv_iadd hx hb (lw_d rfl) ?_
  refine va_sld (A := fun q => s.heap.size ≤ q) hx hb hX hbl hbA hS h1 (lw_d rfl) ?_
  refine lv_aload_n hx hb (lw_d rfl) rfl (lv_at hl 3 rfl) ?_
  refine lv_iload_n hx hb (lw_d rfl) rfl (lv_at hl 0 rfl) ?_
  refine lv_iconst (v := 2) hx hb (lw_d rfl) (by decide) ?_
  refine lv_iadd hx hb (lw_d rfl) ?_
  refine va_sld (A := fun q => s.heap.size ≤ q) hx hb hX hbl hbA hS h2 (lw_d rfl) ?_
  refine lw_call (k := 7) (np := 2) (as := [.int (xs (i + 1).toNatClampNeg), .int (xs (i + 2).toNatClampNeg)]) (rest := []) (bb := s.heap.size) (A := fun q => s.heap.size ≤ q) ⟨hx, hb, hml, hown, hts⟩ hl.1 (lw_d rfl) (by decide) rfl rfl lw_m7 lw_n7 lw_s7 lw_iC ⟨by decide +kernel, by decide +kernel, by decide +kernel⟩ rfl (by decide) z4 hc ⟨sC.1.trans z1.symm, sC.2.1.trans z2.symm⟩ z3 hK hP1 (lw_D (Nat.le_refl _)) hS (fun q h9 => h9) (by decide) ⟨by decide, by decide⟩ (fun H1 locs1 hP1 hD1 hS hk1 hz1 => ?_)
  have hP2 := lw_apart hP2 (Or.inl (by rw [z1]; exact Nat.le_refl _)) hk1
  refine lv_aload_n hx hb (lw_d rfl) rfl (lv_at hl 1 rfl) ?_
  refine lv_aload_n hx hb (lw_d rfl) rfl (lv_at hl 3 rfl) ?_
  refine lv_iload_n hx hb (lw_d rfl) rfl (lv_at hl 0 rfl) ?_
  refine lv_iconst (v := 1) hx hb (lw_d rfl) (by decide) ?_
  refine lv_iadd hx hb (lw_d rfl) ?_
  refine va_sld (A := fun q => s.heap.size ≤ q) hx hb hX hbl hbA hS h1 (lw_d rfl) ?_
  refine lv_aload_n hx hb (lw_d rfl) rfl (lv_at hl 3 rfl) ?_
  refine lv_iload_n hx hb (lw_d rfl) rfl (lv_at hl 0 rfl) ?_
  refine lv_iconst (v := 2) hx hb (lw_d rfl) (by decide) ?_
  refine lv_iadd hx hb (lw_d rfl) ?_
  refine va_sld (A := fun q => s.heap.size ≤ q) hx hb hX hbl hbA hS h2 (lw_d rfl) ?_
  refine lw_call (k := 76) (np := 2) (as := [.int (xs (i + 1).toNatClampNeg), .int (xs (i + 2).toNatClampNeg)]) (rest := [.int r]) (bb := s.heap.size + 166) (A := fun q => s.heap.size ≤ q) ⟨hx, hb, hml, hown, hts⟩ hl.1 (lw_d rfl) (by decide) rfl rfl lw_m76 lw_n76 lw_s76 lw_iR ⟨by decide +kernel, by decide +kernel, by decide +kernel⟩ rfl (by decide) y4 hr ⟨sR.1.trans y1.symm, sR.2.1.trans y2.symm⟩ y3 hK hP2 (lw_D (Nat.le_add_right _ _)) hS (fun q h9 => h9) (Nat.le_of_ble_eq_true rfl) ⟨by decide, by decide⟩ (fun H2 locs2 hP2 hD2 hS hk2 hz2 => ?_)
  have hP1 := lw_apart hP1 (Or.inr (by rw [sC.1]; exact Nat.le_refl _)) hk2
  exact lv_icmp_eq hx hb (lw_d rfl) (tgt := 664) (by decide) (fun _ => kk H2 locs2 ⟨hP1, hP2, hS, sC, sR⟩) (fun h9 => absurd rfl h9)
set_option maxHeartbeats 4000000 in
set_option maxRecDepth 100000 in
theorem lw_case7 (S : CallFix p m c code 4 s #[Value.ref b] lw_tbl R_law) (hX : va_X b L xs s s.heap) (hbl : b < s.heap.size) (hK : va_K D rb_cl (rb_tys cA) s) (hl : lv_has arr 4 [(3, .int i), (2, .ref (s.heap.size + 166)), (1, .ref s.heap.size), (0, .ref b)]) (hI : lw_In D cA s hC hR H locs) (h1 : vp_in (i + 1) L) (h2 : vp_in (i + 2) L) (h3 : vp_in (i + 3) L) {r : Int32} {hC' hR' : rb_H} (hc : rb_rel false 8 8 [.ref 0, .int (xs (i + 1).toNatClampNeg), .int (xs (i + 2).toNatClampNeg), .int (xs (i + 3).toNatClampNeg)] hC (some (.int r)) hC') (hr : rb_rel false 8 77 [.ref 0, .int (xs (i + 1).toNatClampNeg), .int (xs (i + 2).toNatClampNeg), .int (xs (i + 3).toNatClampNeg)] hR (some (.int r)) hR')
    (sC : hC'.1 = 166 ∧ hC'.2.1 = 1286 ∧ (∀ i, hC'.1 ≤ i → hC'.2.2 i = rb_blank) ∧ ∃ fs, hC'.2.2 0 = .inr (0, fs)) (sR : hR'.1 = 55 ∧ hR'.2.1 = 1603 ∧ (∀ i, hR'.1 ≤ i → hR'.2.2 i = rb_blank) ∧ ∃ fs, hR'.2.2 0 = .inr (7, fs))
    (kk : ∀ (H1 : Heap) (locs1 : List Loc), lw_In D cA s hC' hR' H1 locs1 → W p l e room_1 s m #[Value.ref b] below meth c H1 locs1 221 2889 Q (F0 m 664 arr [])) : W p l e room_1 s m #[Value.ref b] below meth c H locs 221 2889 Q (F0 m 341 arr []) := by
  obtain ⟨hx, hb, hml, hown, hts⟩ := S
  obtain ⟨hP1, hP2, hS, ⟨z1, z2, z3, fC, z4⟩, y1, y2, y3, fR, y4⟩ := hI
  have hbA : ¬ s.heap.size ≤ b := Nat.not_le.mpr hbl
  refine lv_aload_n hx hb (lw_d rfl) rfl (lv_at hl 2 rfl) ?_
  refine lv_aload_n hx hb (lw_d rfl) rfl (lv_at hl 3 rfl) ?_
  refine lv_iload_n hx hb (lw_d rfl) rfl (lv_at hl 0 rfl) ?_
  refine lv_iconst (v := 1) hx hb (lw_d rfl) (by decide) ?_
  refine lv_iadd hx hb (lw_d rfl) ?_
  refine va_sld (A := fun q => s.heap.size ≤ q) hx hb hX hbl hbA hS h1 (lw_d rfl) ?_
  refine lv_aload_n hx hb (lw_d rfl) rfl (lv_at hl 3 rfl) ?_
  refine lv_iload_n hx hb (lw_d rfl) rfl (lv_at hl 0 rfl) ?_
  refine lv_iconst (v := 2) hx hb (lw_d rfl) (by decide) ?_
  refine lv_iadd hx hb (lw_d rfl) ?_
  refine va_sld (A := fun q => s.heap.size ≤ q) hx hb hX hbl hbA hS h2 (lw_d rfl) ?_
  refine lv_aload_n hx hb (lw_d rfl) rfl (lv_at hl 3 rfl) ?_
  refine lv_iload_n hx hb (lw_d rfl) rfl (lv_at hl 0 rfl) ?_
  refine lv_iconst (v := 3) hx hb (lw_d rfl) (by decide) ?_
  refine lv_iadd hx hb (lw_d rfl) ?_
  refine va_sld (A := fun q => s.heap.size ≤ q) hx hb hX hbl hbA hS h3 (lw_d rfl) ?_
  refine lw_call (k := 8) (np := 3) (as := [.int (xs (i + 1).toNatClampNeg), .int (xs (i + 2).toNatClampNeg), .int (xs (i + 3).toNatClampNeg)]) (rest := []) (bb := s.heap.size) (A := fun q => s.heap.size ≤ q) ⟨hx, hb, hml, hown, hts⟩ hl.1 (lw_d rfl) (by decide) rfl rfl lw_m8 lw_n8 lw_s8 lw_iC ⟨by decide +kernel, by decide +kernel, by decide +kernel⟩ rfl (by decide) z4 hc ⟨sC.1.trans z1.symm, sC.2.1.trans z2.symm⟩ z3 hK hP1 (lw_D (Nat.le_refl _)) hS (fun q h9 => h9) (by decide) ⟨by decide, by decide⟩ (fun H1 locs1 hP1 hD1 hS hk1 hz1 => ?_)
  have hP2 := lw_apart hP2 (Or.inl (by rw [z1]; exact Nat.le_refl _)) hk1
  refine lv_aload_n hx hb (lw_d rfl) rfl (lv_at hl 1 rfl) ?_
  refine lv_aload_n hx hb (lw_d rfl) rfl (lv_at hl 3 rfl) ?_
  refine lv_iload_n hx hb (lw_d rfl) rfl (lv_at hl 0 rfl) ?_
  refine lv_iconst (v := 1) hx hb (lw_d rfl) (by decide) ?_
  refine lv_iadd hx hb (lw_d rfl) ?_
  refine va_sld (A := fun q => s.heap.size ≤ q) hx hb hX hbl hbA hS h1 (lw_d rfl) ?_
  refine lv_aload_n hx hb (lw_d rfl) rfl (lv_at hl 3 rfl) ?_
  refine lv_iload_n hx hb (lw_d rfl) rfl (lv_at hl 0 rfl) ?_
  refine lv_iconst (v := 2) hx hb (lw_d rfl) (by decide) ?_
  refine lv_iadd hx hb (lw_d rfl) ?_
  refine va_sld (A := fun q => s.heap.size ≤ q) hx hb hX hbl hbA hS h2 (lw_d rfl) ?_
  refine lv_aload_n hx hb (lw_d rfl) rfl (lv_at hl 3 rfl) ?_
  refine lv_iload_n hx hb (lw_d rfl) rfl (lv_at hl 0 rfl) ?_
  refine lv_iconst (v := 3) hx hb (lw_d rfl) (by decide) ?_
  refine lv_iadd hx hb (lw_d rfl) ?_
  refine va_sld (A := fun q => s.heap.size ≤ q) hx hb hX hbl hbA hS h3 (lw_d rfl) ?_
  refine lw_call (k := 77) (np := 3) (as := [.int (xs (i + 1).toNatClampNeg), .int (xs (i + 2).toNatClampNeg), .int (xs (i + 3).toNatClampNeg)]) (rest := [.int r]) (bb := s.heap.size + 166) (A := fun q => s.heap.size ≤ q) ⟨hx, hb, hml, hown, hts⟩ hl.1 (lw_d rfl) (by decide) rfl rfl lw_m77 lw_n77 lw_s77 lw_iR ⟨by decide +kernel, by decide +kernel, by decide +kernel⟩ rfl (by decide) y4 hr ⟨sR.1.trans y1.symm, sR.2.1.trans y2.symm⟩ y3 hK hP2 (lw_D (Nat.le_add_right _ _)) hS (fun q h9 => h9) (Nat.le_of_ble_eq_true rfl) ⟨by decide, by decide⟩ (fun H2 locs2 hP2 hD2 hS hk2 hz2 => ?_)
  have hP1 := lw_apart hP1 (Or.inr (by rw [sC.1]; exact Nat.le_refl _)) hk2
  exact lv_icmp_eq hx hb (lw_d rfl) (tgt := 664) (by decide) (fun _ => kk H2 locs2 ⟨hP1, hP2, hS, sC, sR⟩) (fun h9 => absurd rfl h9)
set_option maxHeartbeats 4000000 in
set_option maxRecDepth 100000 in
theorem lw_case8 (S : CallFix p m c code 4 s #[Value.ref b] lw_tbl R_law) (hX : va_X b L xs s s.heap) (hbl : b < s.heap.size) (hK : va_K D rb_cl (rb_tys cA) s) (hl : lv_has arr 4 [(3, .int i), (2, .ref (s.heap.size + 166)), (1, .ref s.heap.size), (0, .ref b)]) (hI : lw_In D cA s hC hR H locs) (h1 : vp_in (i + 1) L) {r : Int32} {hC' hR' : rb_H} (hc : rb_rel false 8 9 [.ref 0, .int (xs (i + 1).toNatClampNeg)] hC (some (.int r)) hC') (hr : rb_rel false 8 79 [.ref 0, .int (xs (i + 1).toNatClampNeg)] hR (some (.int r)) hR')
    (sC : hC'.1 = 166 ∧ hC'.2.1 = 1286 ∧ (∀ i, hC'.1 ≤ i → hC'.2.2 i = rb_blank) ∧ ∃ fs, hC'.2.2 0 = .inr (0, fs)) (sR : hR'.1 = 55 ∧ hR'.2.1 = 1603 ∧ (∀ i, hR'.1 ≤ i → hR'.2.2 i = rb_blank) ∧ ∃ fs, hR'.2.2 0 = .inr (7, fs))
    (kk : ∀ (H1 : Heap) (locs1 : List Loc), lw_In D cA s hC' hR' H1 locs1 → W p l e room_1 s m #[Value.ref b] below meth c H1 locs1 221 2889 Q (F0 m 664 arr [])) : W p l e room_1 s m #[Value.ref b] below meth c H locs 221 2889 Q (F0 m 384 arr []) := by
  obtain ⟨hx, hb, hml, hown, hts⟩ := S
  obtain ⟨hP1, hP2, hS, ⟨z1, z2, z3, fC, z4⟩, y1, y2, y3, fR, y4⟩ := hI
  have hbA : ¬ s.heap.size ≤ b := Nat.not_le.mpr hbl
  refine lv_aload_n hx hb (lw_d rfl) rfl (lv_at hl 2 rfl) ?_
  refine lv_aload_n hx hb (lw_d rfl) rfl (lv_at hl 3 rfl) ?_
  refine lv_iload_n hx hb (lw_d rfl) rfl (lv_at hl 0 rfl) ?_
  refine lv_iconst (v := 1) hx hb (lw_d rfl) (by decide) ?_
  refine lv_iadd hx hb (lw_d rfl) ?_
  refine va_sld (A := fun q => s.heap.size ≤ q) hx hb hX hbl hbA hS h1 (lw_d rfl) ?_
  refine lw_call (k := 9) (np := 1) (as := [.int (xs (i + 1).toNatClampNeg)]) (rest := []) (bb := s.heap.size) (A := fun q => s.heap.size ≤ q) ⟨hx, hb, hml, hown, hts⟩ hl.1 (lw_d rfl) (by decide) rfl rfl lw_m9 lw_n9 lw_s9 lw_iC ⟨by decide +kernel, by decide +kernel, by decide +kernel⟩ rfl (by decide) z4 hc ⟨sC.1.trans z1.symm, sC.2.1.trans z2.symm⟩ z3 hK hP1 (lw_D (Nat.le_refl _)) hS (fun q h9 => h9) (by decide) ⟨by decide, by decide⟩ (fun H1 locs1 hP1 hD1 hS hk1 hz1 => ?_)
  have hP2 := lw_apart hP2 (Or.inl (by rw [z1]; exact Nat.le_refl _)) hk1
  refine lv_aload_n hx hb (lw_d rfl) rfl (lv_at hl 1 rfl) ?_
  refine lv_aload_n hx hb (lw_d rfl) rfl (lv_at hl 3 rfl) ?_
  refine lv_iload_n hx hb (lw_d rfl) rfl (lv_at hl 0 rfl) ?_
  refine lv_iconst (v := 1) hx hb (lw_d rfl) (by decide) ?_
  refine lv_iadd hx hb (lw_d rfl) ?_
  refine va_sld (A := fun q => s.heap.size ≤ q) hx hb hX hbl hbA hS h1 (lw_d rfl) ?_
  refine lw_call (k := 79) (np := 1) (as := [.int (xs (i + 1).toNatClampNeg)]) (rest := [.int r]) (bb := s.heap.size + 166) (A := fun q => s.heap.size ≤ q) ⟨hx, hb, hml, hown, hts⟩ hl.1 (lw_d rfl) (by decide) rfl rfl lw_m79 lw_n79 lw_s79 lw_iR ⟨by decide +kernel, by decide +kernel, by decide +kernel⟩ rfl (by decide) y4 hr ⟨sR.1.trans y1.symm, sR.2.1.trans y2.symm⟩ y3 hK hP2 (lw_D (Nat.le_add_right _ _)) hS (fun q h9 => h9) (Nat.le_of_ble_eq_true rfl) ⟨by decide, by decide⟩ (fun H2 locs2 hP2 hD2 hS hk2 hz2 => ?_)
  have hP1 := lw_apart hP1 (Or.inr (by rw [sC.1]; exact Nat.le_refl _)) hk2
  exact lv_icmp_eq hx hb (lw_d rfl) (tgt := 664) (by decide) (fun _ => kk H2 locs2 ⟨hP1, hP2, hS, sC, sR⟩) (fun h9 => absurd rfl h9)
set_option maxHeartbeats 4000000 in
set_option maxRecDepth 100000 in
theorem lw_case9 (S : CallFix p m c code 4 s #[Value.ref b] lw_tbl R_law) (hX : va_X b L xs s s.heap) (hbl : b < s.heap.size) (hK : va_K D rb_cl (rb_tys cA) s) (hl : lv_has arr 4 [(3, .int i), (2, .ref (s.heap.size + 166)), (1, .ref s.heap.size), (0, .ref b)]) (hI : lw_In D cA s hC hR H locs) (h1 : vp_in (i + 1) L) (h2 : vp_in (i + 2) L) {r : Int32} {hC' hR' : rb_H} (hc : rb_rel false 8 10 [.ref 0, .int (xs (i + 1).toNatClampNeg), .int (xs (i + 2).toNatClampNeg)] hC (some (.int r)) hC') (hr : rb_rel false 8 80 [.ref 0, .int (xs (i + 1).toNatClampNeg), .int (xs (i + 2).toNatClampNeg)] hR (some (.int r)) hR')
    (sC : hC'.1 = 166 ∧ hC'.2.1 = 1286 ∧ (∀ i, hC'.1 ≤ i → hC'.2.2 i = rb_blank) ∧ ∃ fs, hC'.2.2 0 = .inr (0, fs)) (sR : hR'.1 = 55 ∧ hR'.2.1 = 1603 ∧ (∀ i, hR'.1 ≤ i → hR'.2.2 i = rb_blank) ∧ ∃ fs, hR'.2.2 0 = .inr (7, fs))
    (kk : ∀ (H1 : Heap) (locs1 : List Loc), lw_In D cA s hC' hR' H1 locs1 → W p l e room_1 s m #[Value.ref b] below meth c H1 locs1 221 2889 Q (F0 m 664 arr [])) : W p l e room_1 s m #[Value.ref b] below meth c H locs 221 2889 Q (F0 m 407 arr []) := by
  obtain ⟨hx, hb, hml, hown, hts⟩ := S
  obtain ⟨hP1, hP2, hS, ⟨z1, z2, z3, fC, z4⟩, y1, y2, y3, fR, y4⟩ := hI
  have hbA : ¬ s.heap.size ≤ b := Nat.not_le.mpr hbl
  refine lv_aload_n hx hb (lw_d rfl) rfl (lv_at hl 2 rfl) ?_
  refine lv_aload_n hx hb (lw_d rfl) rfl (lv_at hl 3 rfl) ?_
  refine lv_iload_n hx hb (lw_d rfl) rfl (lv_at hl 0 rfl) ?_
  refine lv_iconst (v := 1) hx hb (lw_d rfl) (by decide) ?_
  refine lv_iadd hx hb (lw_d rfl) ?_
  refine va_sld (A := fun q => s.heap.size ≤ q) hx hb hX hbl hbA hS h1 (lw_d rfl) ?_
  refine lv_aload_n hx hb (lw_d rfl) rfl (lv_at hl 3 rfl) ?_
  refine lv_iload_n hx hb (lw_d rfl) rfl (lv_at hl 0 rfl) ?_
  refine lv_iconst (v := 2) hx hb (lw_d rfl) (by decide) ?_
  refine lv_iadd hx hb (lw_d rfl) ?_
  refine va_sld (A := fun q => s.heap.size ≤ q) hx hb hX hbl hbA hS h2 (lw_d rfl) ?_
  refine lw_call (k := 10) (np := 2) (as := [.int (xs (i + 1).toNatClampNeg), .int (xs (i + 2).toNatClampNeg)]) (rest := []) (bb := s.heap.size) (A := fun q => s.heap.size ≤ q) ⟨hx, hb, hml, hown, hts⟩ hl.1 (lw_d rfl) (by decide) rfl rfl lw_m10 lw_n10 lw_s10 lw_iC ⟨by decide +kernel, by decide +kernel, by decide +kernel⟩ rfl (by decide) z4 hc ⟨sC.1.trans z1.symm, sC.2.1.trans z2.symm⟩ z3 hK hP1 (lw_D (Nat.le_refl _)) hS (fun q h9 => h9) (by decide) ⟨by decide, by decide⟩ (fun H1 locs1 hP1 hD1 hS hk1 hz1 => ?_)
  have hP2 := lw_apart hP2 (Or.inl (by rw [z1]; exact Nat.le_refl _)) hk1
  refine lv_aload_n hx hb (lw_d rfl) rfl (lv_at hl 1 rfl) ?_
  refine lv_aload_n hx hb (lw_d rfl) rfl (lv_at hl 3 rfl) ?_
  refine lv_iload_n hx hb (lw_d rfl) rfl (lv_at hl 0 rfl) ?_
  refine lv_iconst (v := 1) hx hb (lw_d rfl) (by decide) ?_
  refine lv_iadd hx hb (lw_d rfl) ?_
  refine va_sld (A := fun q => s.heap.size ≤ q) hx hb hX hbl hbA hS h1 (lw_d rfl) ?_
  refine lv_aload_n hx hb (lw_d rfl) rfl (lv_at hl 3 rfl) ?_
  refine lv_iload_n hx hb (lw_d rfl) rfl (lv_at hl 0 rfl) ?_
  refine lv_iconst (v := 2) hx hb (lw_d rfl) (by decide) ?_
  refine lv_iadd hx hb (lw_d rfl) ?_
  refine va_sld (A := fun q => s.heap.size ≤ q) hx hb hX hbl hbA hS h2 (lw_d rfl) ?_
  refine lw_call (k := 80) (np := 2) (as := [.int (xs (i + 1).toNatClampNeg), .int (xs (i + 2).toNatClampNeg)]) (rest := [.int r]) (bb := s.heap.size + 166) (A := fun q => s.heap.size ≤ q) ⟨hx, hb, hml, hown, hts⟩ hl.1 (lw_d rfl) (by decide) rfl rfl lw_m80 lw_n80 lw_s80 lw_iR ⟨by decide +kernel, by decide +kernel, by decide +kernel⟩ rfl (by decide) y4 hr ⟨sR.1.trans y1.symm, sR.2.1.trans y2.symm⟩ y3 hK hP2 (lw_D (Nat.le_add_right _ _)) hS (fun q h9 => h9) (Nat.le_of_ble_eq_true rfl) ⟨by decide, by decide⟩ (fun H2 locs2 hP2 hD2 hS hk2 hz2 => ?_)
  have hP1 := lw_apart hP1 (Or.inr (by rw [sC.1]; exact Nat.le_refl _)) hk2
  exact lv_icmp_eq hx hb (lw_d rfl) (tgt := 664) (by decide) (fun _ => kk H2 locs2 ⟨hP1, hP2, hS, sC, sR⟩) (fun h9 => absurd rfl h9)
set_option maxHeartbeats 4000000 in
set_option maxRecDepth 100000 in
theorem lw_case10 (S : CallFix p m c code 4 s #[Value.ref b] lw_tbl R_law) (hX : va_X b L xs s s.heap) (hbl : b < s.heap.size) (hK : va_K D rb_cl (rb_tys cA) s) (hl : lv_has arr 4 [(3, .int i), (2, .ref (s.heap.size + 166)), (1, .ref s.heap.size), (0, .ref b)]) (hI : lw_In D cA s hC hR H locs) (h1 : vp_in (i + 1) L) {r : Int32} {hC' hR' : rb_H} (hc : rb_rel false 8 11 [.ref 0, .int (xs (i + 1).toNatClampNeg)] hC (some (.int r)) hC') (hr : rb_rel false 8 81 [.ref 0, .int (xs (i + 1).toNatClampNeg)] hR (some (.int r)) hR')
    (sC : hC'.1 = 166 ∧ hC'.2.1 = 1286 ∧ (∀ i, hC'.1 ≤ i → hC'.2.2 i = rb_blank) ∧ ∃ fs, hC'.2.2 0 = .inr (0, fs)) (sR : hR'.1 = 55 ∧ hR'.2.1 = 1603 ∧ (∀ i, hR'.1 ≤ i → hR'.2.2 i = rb_blank) ∧ ∃ fs, hR'.2.2 0 = .inr (7, fs))
    (kk : ∀ (H1 : Heap) (locs1 : List Loc), lw_In D cA s hC' hR' H1 locs1 → W p l e room_1 s m #[Value.ref b] below meth c H1 locs1 221 2889 Q (F0 m 664 arr [])) : W p l e room_1 s m #[Value.ref b] below meth c H locs 221 2889 Q (F0 m 440 arr []) := by
  obtain ⟨hx, hb, hml, hown, hts⟩ := S
  obtain ⟨hP1, hP2, hS, ⟨z1, z2, z3, fC, z4⟩, y1, y2, y3, fR, y4⟩ := hI
  have hbA : ¬ s.heap.size ≤ b := Nat.not_le.mpr hbl
  refine lv_aload_n hx hb (lw_d rfl) rfl (lv_at hl 2 rfl) ?_
  refine lv_aload_n hx hb (lw_d rfl) rfl (lv_at hl 3 rfl) ?_
  refine lv_iload_n hx hb (lw_d rfl) rfl (lv_at hl 0 rfl) ?_
  refine lv_iconst (v := 1) hx hb (lw_d rfl) (by decide) ?_
  refine lv_iadd hx hb (lw_d rfl) ?_
  refine va_sld (A := fun q => s.heap.size ≤ q) hx hb hX hbl hbA hS h1 (lw_d rfl) ?_
  refine lw_call (k := 11) (np := 1) (as := [.int (xs (i + 1).toNatClampNeg)]) (rest := []) (bb := s.heap.size) (A := fun q => s.heap.size ≤ q) ⟨hx, hb, hml, hown, hts⟩ hl.1 (lw_d rfl) (by decide) rfl rfl lw_m11 lw_n11 lw_s11 lw_iC ⟨by decide +kernel, by decide +kernel, by decide +kernel⟩ rfl (by decide) z4 hc ⟨sC.1.trans z1.symm, sC.2.1.trans z2.symm⟩ z3 hK hP1 (lw_D (Nat.le_refl _)) hS (fun q h9 => h9) (by decide) ⟨by decide, by decide⟩ (fun H1 locs1 hP1 hD1 hS hk1 hz1 => ?_)
  have hP2 := lw_apart hP2 (Or.inl (by rw [z1]; exact Nat.le_refl _)) hk1
  refine lv_aload_n hx hb (lw_d rfl) rfl (lv_at hl 1 rfl) ?_
  refine lv_aload_n hx hb (lw_d rfl) rfl (lv_at hl 3 rfl) ?_
  refine lv_iload_n hx hb (lw_d rfl) rfl (lv_at hl 0 rfl) ?_
  refine lv_iconst (v := 1) hx hb (lw_d rfl) (by decide) ?_
  refine lv_iadd hx hb (lw_d rfl) ?_
  refine va_sld (A := fun q => s.heap.size ≤ q) hx hb hX hbl hbA hS h1 (lw_d rfl) ?_
  refine lw_call (k := 81) (np := 1) (as := [.int (xs (i + 1).toNatClampNeg)]) (rest := [.int r]) (bb := s.heap.size + 166) (A := fun q => s.heap.size ≤ q) ⟨hx, hb, hml, hown, hts⟩ hl.1 (lw_d rfl) (by decide) rfl rfl lw_m81 lw_n81 lw_s81 lw_iR ⟨by decide +kernel, by decide +kernel, by decide +kernel⟩ rfl (by decide) y4 hr ⟨sR.1.trans y1.symm, sR.2.1.trans y2.symm⟩ y3 hK hP2 (lw_D (Nat.le_add_right _ _)) hS (fun q h9 => h9) (Nat.le_of_ble_eq_true rfl) ⟨by decide, by decide⟩ (fun H2 locs2 hP2 hD2 hS hk2 hz2 => ?_)
  have hP1 := lw_apart hP1 (Or.inr (by rw [sC.1]; exact Nat.le_refl _)) hk2
  exact lv_icmp_eq hx hb (lw_d rfl) (tgt := 664) (by decide) (fun _ => kk H2 locs2 ⟨hP1, hP2, hS, sC, sR⟩) (fun h9 => absurd rfl h9)
set_option maxHeartbeats 4000000 in
set_option maxRecDepth 100000 in
theorem lw_case11 (S : CallFix p m c code 4 s #[Value.ref b] lw_tbl R_law) (hX : va_X b L xs s s.heap) (hbl : b < s.heap.size) (hK : va_K D rb_cl (rb_tys cA) s) (hl : lv_has arr 4 [(3, .int i), (2, .ref (s.heap.size + 166)), (1, .ref s.heap.size), (0, .ref b)]) (hI : lw_In D cA s hC hR H locs) (h1 : vp_in (i + 1) L) {r : Int32} {hC' hR' : rb_H} (hc : rb_rel false 8 12 [.ref 0, .int (xs (i + 1).toNatClampNeg)] hC (some (.int r)) hC') (hr : rb_rel false 8 68 [.ref 0, .int (xs (i + 1).toNatClampNeg)] hR (some (.int r)) hR')
    (sC : hC'.1 = 166 ∧ hC'.2.1 = 1286 ∧ (∀ i, hC'.1 ≤ i → hC'.2.2 i = rb_blank) ∧ ∃ fs, hC'.2.2 0 = .inr (0, fs)) (sR : hR'.1 = 55 ∧ hR'.2.1 = 1603 ∧ (∀ i, hR'.1 ≤ i → hR'.2.2 i = rb_blank) ∧ ∃ fs, hR'.2.2 0 = .inr (7, fs))
    (kk : ∀ (H1 : Heap) (locs1 : List Loc), lw_In D cA s hC' hR' H1 locs1 → W p l e room_1 s m #[Value.ref b] below meth c H1 locs1 221 2889 Q (F0 m 664 arr [])) : W p l e room_1 s m #[Value.ref b] below meth c H locs 221 2889 Q (F0 m 463 arr []) := by
  obtain ⟨hx, hb, hml, hown, hts⟩ := S
  obtain ⟨hP1, hP2, hS, ⟨z1, z2, z3, fC, z4⟩, y1, y2, y3, fR, y4⟩ := hI
  have hbA : ¬ s.heap.size ≤ b := Nat.not_le.mpr hbl
  refine lv_aload_n hx hb (lw_d rfl) rfl (lv_at hl 2 rfl) ?_
  refine lv_aload_n hx hb (lw_d rfl) rfl (lv_at hl 3 rfl) ?_
  refine lv_iload_n hx hb (lw_d rfl) rfl (lv_at hl 0 rfl) ?_
  refine lv_iconst (v := 1) hx hb (lw_d rfl) (by decide) ?_
  refine lv_iadd hx hb (lw_d rfl) ?_
  refine va_sld (A := fun q => s.heap.size ≤ q) hx hb hX hbl hbA hS h1 (lw_d rfl) ?_
  refine lw_call (k := 12) (np := 1) (as := [.int (xs (i + 1).toNatClampNeg)]) (rest := []) (bb := s.heap.size) (A := fun q => s.heap.size ≤ q) ⟨hx, hb, hml, hown, hts⟩ hl.1 (lw_d rfl) (by decide) rfl rfl lw_m12 lw_n12 lw_s12 lw_iC ⟨by decide +kernel, by decide +kernel, by decide +kernel⟩ rfl (by decide) z4 hc ⟨sC.1.trans z1.symm, sC.2.1.trans z2.symm⟩ z3 hK hP1 (lw_D (Nat.le_refl _)) hS (fun q h9 => h9) (by decide) ⟨by decide, by decide⟩ (fun H1 locs1 hP1 hD1 hS hk1 hz1 => ?_)
  have hP2 := lw_apart hP2 (Or.inl (by rw [z1]; exact Nat.le_refl _)) hk1
  refine lv_aload_n hx hb (lw_d rfl) rfl (lv_at hl 1 rfl) ?_
  refine lv_aload_n hx hb (lw_d rfl) rfl (lv_at hl 3 rfl) ?_
  refine lv_iload_n hx hb (lw_d rfl) rfl (lv_at hl 0 rfl) ?_
  refine lv_iconst (v := 1) hx hb (lw_d rfl) (by decide) ?_
  refine lv_iadd hx hb (lw_d rfl) ?_
  refine va_sld (A := fun q => s.heap.size ≤ q) hx hb hX hbl hbA hS h1 (lw_d rfl) ?_
  refine lw_call (k := 68) (np := 1) (as := [.int (xs (i + 1).toNatClampNeg)]) (rest := [.int r]) (bb := s.heap.size + 166) (A := fun q => s.heap.size ≤ q) ⟨hx, hb, hml, hown, hts⟩ hl.1 (lw_d rfl) (by decide) rfl rfl lw_m68 lw_n68 lw_s68 lw_iR ⟨by decide +kernel, by decide +kernel, by decide +kernel⟩ rfl (by decide) y4 hr ⟨sR.1.trans y1.symm, sR.2.1.trans y2.symm⟩ y3 hK hP2 (lw_D (Nat.le_add_right _ _)) hS (fun q h9 => h9) (Nat.le_of_ble_eq_true rfl) ⟨by decide, by decide⟩ (fun H2 locs2 hP2 hD2 hS hk2 hz2 => ?_)
  have hP1 := lw_apart hP1 (Or.inr (by rw [sC.1]; exact Nat.le_refl _)) hk2
  exact lv_icmp_eq hx hb (lw_d rfl) (tgt := 664) (by decide) (fun _ => kk H2 locs2 ⟨hP1, hP2, hS, sC, sR⟩) (fun h9 => absurd rfl h9)
set_option maxHeartbeats 4000000 in
set_option maxRecDepth 100000 in
theorem lw_case12 (S : CallFix p m c code 4 s #[Value.ref b] lw_tbl R_law) (hX : va_X b L xs s s.heap) (hbl : b < s.heap.size) (hK : va_K D rb_cl (rb_tys cA) s) (hl : lv_has arr 4 [(3, .int i), (2, .ref (s.heap.size + 166)), (1, .ref s.heap.size), (0, .ref b)]) (hI : lw_In D cA s hC hR H locs) (h1 : vp_in (i + 1) L) {r : Int32} {hC' hR' : rb_H} (hc : rb_rel false 8 13 [.ref 0, .int (xs (i + 1).toNatClampNeg)] hC (some (.int r)) hC') (hr : rb_rel false 8 82 [.ref 0, .int (xs (i + 1).toNatClampNeg)] hR (some (.int r)) hR')
    (sC : hC'.1 = 166 ∧ hC'.2.1 = 1286 ∧ (∀ i, hC'.1 ≤ i → hC'.2.2 i = rb_blank) ∧ ∃ fs, hC'.2.2 0 = .inr (0, fs)) (sR : hR'.1 = 55 ∧ hR'.2.1 = 1603 ∧ (∀ i, hR'.1 ≤ i → hR'.2.2 i = rb_blank) ∧ ∃ fs, hR'.2.2 0 = .inr (7, fs))
    (kk : ∀ (H1 : Heap) (locs1 : List Loc), lw_In D cA s hC' hR' H1 locs1 → W p l e room_1 s m #[Value.ref b] below meth c H1 locs1 221 2889 Q (F0 m 664 arr [])) : W p l e room_1 s m #[Value.ref b] below meth c H locs 221 2889 Q (F0 m 486 arr []) := by
  obtain ⟨hx, hb, hml, hown, hts⟩ := S
  obtain ⟨hP1, hP2, hS, ⟨z1, z2, z3, fC, z4⟩, y1, y2, y3, fR, y4⟩ := hI
  have hbA : ¬ s.heap.size ≤ b := Nat.not_le.mpr hbl
  refine lv_aload_n hx hb (lw_d rfl) rfl (lv_at hl 2 rfl) ?_
  refine lv_aload_n hx hb (lw_d rfl) rfl (lv_at hl 3 rfl) ?_
  refine lv_iload_n hx hb (lw_d rfl) rfl (lv_at hl 0 rfl) ?_
  refine lv_iconst (v := 1) hx hb (lw_d rfl) (by decide) ?_
  refine lv_iadd hx hb (lw_d rfl) ?_
  refine va_sld (A := fun q => s.heap.size ≤ q) hx hb hX hbl hbA hS h1 (lw_d rfl) ?_
  refine lw_call (k := 13) (np := 1) (as := [.int (xs (i + 1).toNatClampNeg)]) (rest := []) (bb := s.heap.size) (A := fun q => s.heap.size ≤ q) ⟨hx, hb, hml, hown, hts⟩ hl.1 (lw_d rfl) (by decide) rfl rfl lw_m13 lw_n13 lw_s13 lw_iC ⟨by decide +kernel, by decide +kernel, by decide +kernel⟩ rfl (by decide) z4 hc ⟨sC.1.trans z1.symm, sC.2.1.trans z2.symm⟩ z3 hK hP1 (lw_D (Nat.le_refl _)) hS (fun q h9 => h9) (by decide) ⟨by decide, by decide⟩ (fun H1 locs1 hP1 hD1 hS hk1 hz1 => ?_)
  have hP2 := lw_apart hP2 (Or.inl (by rw [z1]; exact Nat.le_refl _)) hk1
  refine lv_aload_n hx hb (lw_d rfl) rfl (lv_at hl 1 rfl) ?_
  refine lv_aload_n hx hb (lw_d rfl) rfl (lv_at hl 3 rfl) ?_
  refine lv_iload_n hx hb (lw_d rfl) rfl (lv_at hl 0 rfl) ?_
  refine lv_iconst (v := 1) hx hb (lw_d rfl) (by decide) ?_
  refine lv_iadd hx hb (lw_d rfl) ?_
  refine va_sld (A := fun q => s.heap.size ≤ q) hx hb hX hbl hbA hS h1 (lw_d rfl) ?_
  refine lw_call (k := 82) (np := 1) (as := [.int (xs (i + 1).toNatClampNeg)]) (rest := [.int r]) (bb := s.heap.size + 166) (A := fun q => s.heap.size ≤ q) ⟨hx, hb, hml, hown, hts⟩ hl.1 (lw_d rfl) (by decide) rfl rfl lw_m82 lw_n82 lw_s82 lw_iR ⟨by decide +kernel, by decide +kernel, by decide +kernel⟩ rfl (by decide) y4 hr ⟨sR.1.trans y1.symm, sR.2.1.trans y2.symm⟩ y3 hK hP2 (lw_D (Nat.le_add_right _ _)) hS (fun q h9 => h9) (Nat.le_of_ble_eq_true rfl) ⟨by decide, by decide⟩ (fun H2 locs2 hP2 hD2 hS hk2 hz2 => ?_)
  have hP1 := lw_apart hP1 (Or.inr (by rw [sC.1]; exact Nat.le_refl _)) hk2
  exact lv_icmp_eq hx hb (lw_d rfl) (tgt := 664) (by decide) (fun _ => kk H2 locs2 ⟨hP1, hP2, hS, sC, sR⟩) (fun h9 => absurd rfl h9)
set_option maxHeartbeats 4000000 in
set_option maxRecDepth 100000 in
theorem lw_case13 (S : CallFix p m c code 4 s #[Value.ref b] lw_tbl R_law) (hX : va_X b L xs s s.heap) (hbl : b < s.heap.size) (hK : va_K D rb_cl (rb_tys cA) s) (hl : lv_has arr 4 [(3, .int i), (2, .ref (s.heap.size + 166)), (1, .ref s.heap.size), (0, .ref b)]) (hI : lw_In D cA s hC hR H locs) (h1 : vp_in (i + 1) L) {r : Int32} {hC' hR' : rb_H} (hc : rb_rel false 8 14 [.ref 0, .int (xs (i + 1).toNatClampNeg)] hC (some (.int r)) hC') (hr : rb_rel false 8 83 [.ref 0, .int (xs (i + 1).toNatClampNeg)] hR (some (.int r)) hR')
    (sC : hC'.1 = 166 ∧ hC'.2.1 = 1286 ∧ (∀ i, hC'.1 ≤ i → hC'.2.2 i = rb_blank) ∧ ∃ fs, hC'.2.2 0 = .inr (0, fs)) (sR : hR'.1 = 55 ∧ hR'.2.1 = 1603 ∧ (∀ i, hR'.1 ≤ i → hR'.2.2 i = rb_blank) ∧ ∃ fs, hR'.2.2 0 = .inr (7, fs))
    (kk : ∀ (H1 : Heap) (locs1 : List Loc), lw_In D cA s hC' hR' H1 locs1 → W p l e room_1 s m #[Value.ref b] below meth c H1 locs1 221 2889 Q (F0 m 664 arr [])) : W p l e room_1 s m #[Value.ref b] below meth c H locs 221 2889 Q (F0 m 509 arr []) := by
  obtain ⟨hx, hb, hml, hown, hts⟩ := S
  obtain ⟨hP1, hP2, hS, ⟨z1, z2, z3, fC, z4⟩, y1, y2, y3, fR, y4⟩ := hI
  have hbA : ¬ s.heap.size ≤ b := Nat.not_le.mpr hbl
  refine lv_aload_n hx hb (lw_d rfl) rfl (lv_at hl 2 rfl) ?_
  refine lv_aload_n hx hb (lw_d rfl) rfl (lv_at hl 3 rfl) ?_
  refine lv_iload_n hx hb (lw_d rfl) rfl (lv_at hl 0 rfl) ?_
  refine lv_iconst (v := 1) hx hb (lw_d rfl) (by decide) ?_
  refine lv_iadd hx hb (lw_d rfl) ?_
  refine va_sld (A := fun q => s.heap.size ≤ q) hx hb hX hbl hbA hS h1 (lw_d rfl) ?_
  refine lw_call (k := 14) (np := 1) (as := [.int (xs (i + 1).toNatClampNeg)]) (rest := []) (bb := s.heap.size) (A := fun q => s.heap.size ≤ q) ⟨hx, hb, hml, hown, hts⟩ hl.1 (lw_d rfl) (by decide) rfl rfl lw_m14 lw_n14 lw_s14 lw_iC ⟨by decide +kernel, by decide +kernel, by decide +kernel⟩ rfl (by decide) z4 hc ⟨sC.1.trans z1.symm, sC.2.1.trans z2.symm⟩ z3 hK hP1 (lw_D (Nat.le_refl _)) hS (fun q h9 => h9) (by decide) ⟨by decide, by decide⟩ (fun H1 locs1 hP1 hD1 hS hk1 hz1 => ?_)
  have hP2 := lw_apart hP2 (Or.inl (by rw [z1]; exact Nat.le_refl _)) hk1
  refine lv_aload_n hx hb (lw_d rfl) rfl (lv_at hl 1 rfl) ?_
  refine lv_aload_n hx hb (lw_d rfl) rfl (lv_at hl 3 rfl) ?_
  refine lv_iload_n hx hb (lw_d rfl) rfl (lv_at hl 0 rfl) ?_
  refine lv_iconst (v := 1) hx hb (lw_d rfl) (by decide) ?_
  refine lv_iadd hx hb (lw_d rfl) ?_
  refine va_sld (A := fun q => s.heap.size ≤ q) hx hb hX hbl hbA hS h1 (lw_d rfl) ?_
  refine lw_call (k := 83) (np := 1) (as := [.int (xs (i + 1).toNatClampNeg)]) (rest := [.int r]) (bb := s.heap.size + 166) (A := fun q => s.heap.size ≤ q) ⟨hx, hb, hml, hown, hts⟩ hl.1 (lw_d rfl) (by decide) rfl rfl lw_m83 lw_n83 lw_s83 lw_iR ⟨by decide +kernel, by decide +kernel, by decide +kernel⟩ rfl (by decide) y4 hr ⟨sR.1.trans y1.symm, sR.2.1.trans y2.symm⟩ y3 hK hP2 (lw_D (Nat.le_add_right _ _)) hS (fun q h9 => h9) (Nat.le_of_ble_eq_true rfl) ⟨by decide, by decide⟩ (fun H2 locs2 hP2 hD2 hS hk2 hz2 => ?_)
  have hP1 := lw_apart hP1 (Or.inr (by rw [sC.1]; exact Nat.le_refl _)) hk2
  exact lv_icmp_eq hx hb (lw_d rfl) (tgt := 664) (by decide) (fun _ => kk H2 locs2 ⟨hP1, hP2, hS, sC, sR⟩) (fun h9 => absurd rfl h9)
set_option maxHeartbeats 4000000 in
set_option maxRecDepth 100000 in
theorem lw_case14 (S : CallFix p m c code 4 s #[Value.ref b] lw_tbl R_law) (hX : va_X b L xs s s.heap) (hbl : b < s.heap.size) (hK : va_K D rb_cl (rb_tys cA) s) (hl : lv_has arr 4 [(3, .int i), (2, .ref (s.heap.size + 166)), (1, .ref s.heap.size), (0, .ref b)]) (hI : lw_In D cA s hC hR H locs) (h1 : vp_in (i + 1) L) {r : Int32} {hC' hR' : rb_H} (hc : rb_rel false 8 15 [.ref 0, .int (xs (i + 1).toNatClampNeg)] hC (some (.int r)) hC') (hr : rb_rel false 8 84 [.ref 0, .int (xs (i + 1).toNatClampNeg)] hR (some (.int r)) hR')
    (sC : hC'.1 = 166 ∧ hC'.2.1 = 1286 ∧ (∀ i, hC'.1 ≤ i → hC'.2.2 i = rb_blank) ∧ ∃ fs, hC'.2.2 0 = .inr (0, fs)) (sR : hR'.1 = 55 ∧ hR'.2.1 = 1603 ∧ (∀ i, hR'.1 ≤ i → hR'.2.2 i = rb_blank) ∧ ∃ fs, hR'.2.2 0 = .inr (7, fs))
    (kk : ∀ (H1 : Heap) (locs1 : List Loc), lw_In D cA s hC' hR' H1 locs1 → W p l e room_1 s m #[Value.ref b] below meth c H1 locs1 221 2889 Q (F0 m 664 arr [])) : W p l e room_1 s m #[Value.ref b] below meth c H locs 221 2889 Q (F0 m 532 arr []) := by
  obtain ⟨hx, hb, hml, hown, hts⟩ := S
  obtain ⟨hP1, hP2, hS, ⟨z1, z2, z3, fC, z4⟩, y1, y2, y3, fR, y4⟩ := hI
  have hbA : ¬ s.heap.size ≤ b := Nat.not_le.mpr hbl
  refine lv_aload_n hx hb (lw_d rfl) rfl (lv_at hl 2 rfl) ?_
  refine lv_aload_n hx hb (lw_d rfl) rfl (lv_at hl 3 rfl) ?_
  refine lv_iload_n hx hb (lw_d rfl) rfl (lv_at hl 0 rfl) ?_
  refine lv_iconst (v := 1) hx hb (lw_d rfl) (by decide) ?_
  refine lv_iadd hx hb (lw_d rfl) ?_
  refine va_sld (A := fun q => s.heap.size ≤ q) hx hb hX hbl hbA hS h1 (lw_d rfl) ?_
  refine lw_call (k := 15) (np := 1) (as := [.int (xs (i + 1).toNatClampNeg)]) (rest := []) (bb := s.heap.size) (A := fun q => s.heap.size ≤ q) ⟨hx, hb, hml, hown, hts⟩ hl.1 (lw_d rfl) (by decide) rfl rfl lw_m15 lw_n15 lw_s15 lw_iC ⟨by decide +kernel, by decide +kernel, by decide +kernel⟩ rfl (by decide) z4 hc ⟨sC.1.trans z1.symm, sC.2.1.trans z2.symm⟩ z3 hK hP1 (lw_D (Nat.le_refl _)) hS (fun q h9 => h9) (by decide) ⟨by decide, by decide⟩ (fun H1 locs1 hP1 hD1 hS hk1 hz1 => ?_)
  have hP2 := lw_apart hP2 (Or.inl (by rw [z1]; exact Nat.le_refl _)) hk1
  refine lv_aload_n hx hb (lw_d rfl) rfl (lv_at hl 1 rfl) ?_
  refine lv_aload_n hx hb (lw_d rfl) rfl (lv_at hl 3 rfl) ?_
  refine lv_iload_n hx hb (lw_d rfl) rfl (lv_at hl 0 rfl) ?_
  refine lv_iconst (v := 1) hx hb (lw_d rfl) (by decide) ?_
  refine lv_iadd hx hb (lw_d rfl) ?_
  refine va_sld (A := fun q => s.heap.size ≤ q) hx hb hX hbl hbA hS h1 (lw_d rfl) ?_
  refine lw_call (k := 84) (np := 1) (as := [.int (xs (i + 1).toNatClampNeg)]) (rest := [.int r]) (bb := s.heap.size + 166) (A := fun q => s.heap.size ≤ q) ⟨hx, hb, hml, hown, hts⟩ hl.1 (lw_d rfl) (by decide) rfl rfl lw_m84 lw_n84 lw_s84 lw_iR ⟨by decide +kernel, by decide +kernel, by decide +kernel⟩ rfl (by decide) y4 hr ⟨sR.1.trans y1.symm, sR.2.1.trans y2.symm⟩ y3 hK hP2 (lw_D (Nat.le_add_right _ _)) hS (fun q h9 => h9) (Nat.le_of_ble_eq_true rfl) ⟨by decide, by decide⟩ (fun H2 locs2 hP2 hD2 hS hk2 hz2 => ?_)
  have hP1 := lw_apart hP1 (Or.inr (by rw [sC.1]; exact Nat.le_refl _)) hk2
  exact lv_icmp_eq hx hb (lw_d rfl) (tgt := 664) (by decide) (fun _ => kk H2 locs2 ⟨hP1, hP2, hS, sC, sR⟩) (fun h9 => absurd rfl h9)
set_option maxHeartbeats 4000000 in
set_option maxRecDepth 100000 in
theorem lw_case15 (S : CallFix p m c code 4 s #[Value.ref b] lw_tbl R_law) (hX : va_X b L xs s s.heap) (hbl : b < s.heap.size) (hK : va_K D rb_cl (rb_tys cA) s) (hl : lv_has arr 4 [(3, .int i), (2, .ref (s.heap.size + 166)), (1, .ref s.heap.size), (0, .ref b)]) (hI : lw_In D cA s hC hR H locs) (h1 : vp_in (i + 1) L) (h2 : vp_in (i + 2) L) (h3 : vp_in (i + 3) L) {r : Int32} {hC' hR' : rb_H} (hc : rb_rel false 8 16 [.ref 0, .int (xs (i + 1).toNatClampNeg), .int (xs (i + 2).toNatClampNeg), .int (xs (i + 3).toNatClampNeg)] hC (some (.int r)) hC') (hr : rb_rel false 8 85 [.ref 0, .int (xs (i + 1).toNatClampNeg), .int (xs (i + 2).toNatClampNeg), .int (xs (i + 3).toNatClampNeg)] hR (some (.int r)) hR')
    (sC : hC'.1 = 166 ∧ hC'.2.1 = 1286 ∧ (∀ i, hC'.1 ≤ i → hC'.2.2 i = rb_blank) ∧ ∃ fs, hC'.2.2 0 = .inr (0, fs)) (sR : hR'.1 = 55 ∧ hR'.2.1 = 1603 ∧ (∀ i, hR'.1 ≤ i → hR'.2.2 i = rb_blank) ∧ ∃ fs, hR'.2.2 0 = .inr (7, fs))
    (kk : ∀ (H1 : Heap) (locs1 : List Loc), lw_In D cA s hC' hR' H1 locs1 → W p l e room_1 s m #[Value.ref b] below meth c H1 locs1 221 2889 Q (F0 m 664 arr [])) : W p l e room_1 s m #[Value.ref b] below meth c H locs 221 2889 Q (F0 m 555 arr []) := by
  obtain ⟨hx, hb, hml, hown, hts⟩ := S
  obtain ⟨hP1, hP2, hS, ⟨z1, z2, z3, fC, z4⟩, y1, y2, y3, fR, y4⟩ := hI
  have hbA : ¬ s.heap.size ≤ b := Nat.not_le.mpr hbl
  refine lv_aload_n hx hb (lw_d rfl) rfl (lv_at hl 2 rfl) ?_
  refine lv_aload_n hx hb (lw_d rfl) rfl (lv_at hl 3 rfl) ?_
  refine lv_iload_n hx hb (lw_d rfl) rfl (lv_at hl 0 rfl) ?_
  refine lv_iconst (v := 1) hx hb (lw_d rfl) (by decide) ?_
  refine lv_iadd hx hb (lw_d rfl) ?_
  refine va_sld (A := fun q => s.heap.size ≤ q) hx hb hX hbl hbA hS h1 (lw_d rfl) ?_
  refine lv_aload_n hx hb (lw_d rfl) rfl (lv_at hl 3 rfl) ?_
  refine lv_iload_n hx hb (lw_d rfl) rfl (lv_at hl 0 rfl) ?_
  refine lv_iconst (v := 2) hx hb (lw_d rfl) (by decide) ?_
  refine lv_iadd hx hb (lw_d rfl) ?_
  refine va_sld (A := fun q => s.heap.size ≤ q) hx hb hX hbl hbA hS h2 (lw_d rfl) ?_
  refine lv_aload_n hx hb (lw_d rfl) rfl (lv_at hl 3 rfl) ?_
  refine lv_iload_n hx hb (lw_d rfl) rfl (lv_at hl 0 rfl) ?_
  refine lv_iconst (v := 3) hx hb (lw_d rfl) (by decide) ?_
  refine lv_iadd hx hb (lw_d rfl) ?_
  refine va_sld (A := fun q => s.heap.size ≤ q) hx hb hX hbl hbA hS h3 (lw_d rfl) ?_
  refine lw_call (k := 16) (np := 3) (as := [.int (xs (i + 1).toNatClampNeg), .int (xs (i + 2).toNatClampNeg), .int (xs (i + 3).toNatClampNeg)]) (rest := []) (bb := s.heap.size) (A := fun q => s.heap.size ≤ q) ⟨hx, hb, hml, hown, hts⟩ hl.1 (lw_d rfl) (by decide) rfl rfl lw_m16 lw_n16 lw_s16 lw_iC ⟨by decide +kernel, by decide +kernel, by decide +kernel⟩ rfl (by decide) z4 hc ⟨sC.1.trans z1.symm, sC.2.1.trans z2.symm⟩ z3 hK hP1 (lw_D (Nat.le_refl _)) hS (fun q h9 => h9) (by decide) ⟨by decide, by decide⟩ (fun H1 locs1 hP1 hD1 hS hk1 hz1 => ?_)
  have hP2 := lw_apart hP2 (Or.inl (by rw [z1]; exact Nat.le_refl _)) hk1
  refine lv_aload_n hx hb (lw_d rfl) rfl (lv_at hl 1 rfl) ?_
  refine lv_aload_n hx hb (lw_d rfl) rfl (lv_at hl 3 rfl) ?_
  refine lv_iload_n hx hb (lw_d rfl) rfl (lv_at hl 0 rfl) ?_
  refine lv_iconst (v := 1) hx hb (lw_d rfl) (by decide) ?_
  refine lv_iadd hx hb (lw_d rfl) ?_
  refine va_sld (A := fun q => s.heap.size ≤ q) hx hb hX hbl hbA hS h1 (lw_d rfl) ?_
  refine lv_aload_n hx hb (lw_d rfl) rfl (lv_at hl 3 rfl) ?_
  refine lv_iload_n hx hb (lw_d rfl) rfl (lv_at hl 0 rfl) ?_
  refine lv_iconst (v := 2) hx hb (lw_d rfl) (by decide) ?_
  refine lv_iadd hx hb (lw_d rfl) ?_
  refine va_sld (A := fun q => s.heap.size ≤ q) hx hb hX hbl hbA hS h2 (lw_d rfl) ?_
  refine lv_aload_n hx hb (lw_d rfl) rfl (lv_at hl 3 rfl) ?_
  refine lv_iload_n hx hb (lw_d rfl) rfl (lv_at hl 0 rfl) ?_
  refine lv_iconst (v := 3) hx hb (lw_d rfl) (by decide) ?_
  refine lv_iadd hx hb (lw_d rfl) ?_
  refine va_sld (A := fun q => s.heap.size ≤ q) hx hb hX hbl hbA hS h3 (lw_d rfl) ?_
  refine lw_call (k := 85) (np := 3) (as := [.int (xs (i + 1).toNatClampNeg), .int (xs (i + 2).toNatClampNeg), .int (xs (i + 3).toNatClampNeg)]) (rest := [.int r]) (bb := s.heap.size + 166) (A := fun q => s.heap.size ≤ q) ⟨hx, hb, hml, hown, hts⟩ hl.1 (lw_d rfl) (by decide) rfl rfl lw_m85 lw_n85 lw_s85 lw_iR ⟨by decide +kernel, by decide +kernel, by decide +kernel⟩ rfl (by decide) y4 hr ⟨sR.1.trans y1.symm, sR.2.1.trans y2.symm⟩ y3 hK hP2 (lw_D (Nat.le_add_right _ _)) hS (fun q h9 => h9) (Nat.le_of_ble_eq_true rfl) ⟨by decide, by decide⟩ (fun H2 locs2 hP2 hD2 hS hk2 hz2 => ?_)
  have hP1 := lw_apart hP1 (Or.inr (by rw [sC.1]; exact Nat.le_refl _)) hk2
  exact lv_icmp_eq hx hb (lw_d rfl) (tgt := 664) (by decide) (fun _ => kk H2 locs2 ⟨hP1, hP2, hS, sC, sR⟩) (fun h9 => absurd rfl h9)
set_option maxHeartbeats 4000000 in
set_option maxRecDepth 100000 in
theorem lw_case16 (S : CallFix p m c code 4 s #[Value.ref b] lw_tbl R_law) (hX : va_X b L xs s s.heap) (hbl : b < s.heap.size) (hK : va_K D rb_cl (rb_tys cA) s) (hl : lv_has arr 4 [(3, .int i), (2, .ref (s.heap.size + 166)), (1, .ref s.heap.size), (0, .ref b)]) (hI : lw_In D cA s hC hR H locs) (h1 : vp_in (i + 1) L) (h2 : vp_in (i + 2) L) {r : Int32} {hC' hR' : rb_H} (hc : rb_rel false 8 17 [.ref 0, .int (xs (i + 1).toNatClampNeg), .int (xs (i + 2).toNatClampNeg)] hC (some (.int r)) hC') (hr : rb_rel false 8 86 [.ref 0, .int (xs (i + 1).toNatClampNeg), .int (xs (i + 2).toNatClampNeg)] hR (some (.int r)) hR')
    (sC : hC'.1 = 166 ∧ hC'.2.1 = 1286 ∧ (∀ i, hC'.1 ≤ i → hC'.2.2 i = rb_blank) ∧ ∃ fs, hC'.2.2 0 = .inr (0, fs)) (sR : hR'.1 = 55 ∧ hR'.2.1 = 1603 ∧ (∀ i, hR'.1 ≤ i → hR'.2.2 i = rb_blank) ∧ ∃ fs, hR'.2.2 0 = .inr (7, fs))
    (kk : ∀ (H1 : Heap) (locs1 : List Loc), lw_In D cA s hC' hR' H1 locs1 → W p l e room_1 s m #[Value.ref b] below meth c H1 locs1 221 2889 Q (F0 m 664 arr [])) : W p l e room_1 s m #[Value.ref b] below meth c H locs 221 2889 Q (F0 m 598 arr []) := by
  obtain ⟨hx, hb, hml, hown, hts⟩ := S
  obtain ⟨hP1, hP2, hS, ⟨z1, z2, z3, fC, z4⟩, y1, y2, y3, fR, y4⟩ := hI
  have hbA : ¬ s.heap.size ≤ b := Nat.not_le.mpr hbl
  refine lv_aload_n hx hb (lw_d rfl) rfl (lv_at hl 2 rfl) ?_
  refine lv_aload_n hx hb (lw_d rfl) rfl (lv_at hl 3 rfl) ?_
  refine lv_iload_n hx hb (lw_d rfl) rfl (lv_at hl 0 rfl) ?_
  refine lv_iconst (v := 1) hx hb (lw_d rfl) (by decide) ?_
  refine lv_iadd hx hb (lw_d rfl) ?_
  refine va_sld (A := fun q => s.heap.size ≤ q) hx hb hX hbl hbA hS h1 (lw_d rfl) ?_
  refine lv_aload_n hx hb (lw_d rfl) rfl (lv_at hl 3 rfl) ?_
  refine lv_iload_n hx hb (lw_d rfl) rfl (lv_at hl 0 rfl) ?_
  refine lv_iconst (v := 2) hx hb (lw_d rfl) (by decide) ?_
  refine lv_iadd hx hb (lw_d rfl) ?_
  refine va_sld (A := fun q => s.heap.size ≤ q) hx hb hX hbl hbA hS h2 (lw_d rfl) ?_
  refine lw_call (k := 17) (np := 2) (as := [.int (xs (i + 1).toNatClampNeg), .int (xs (i + 2).toNatClampNeg)]) (rest := []) (bb := s.heap.size) (A := fun q => s.heap.size ≤ q) ⟨hx, hb, hml, hown, hts⟩ hl.1 (lw_d rfl) (by decide) rfl rfl lw_m17 lw_n17 lw_s17 lw_iC ⟨by decide +kernel, by decide +kernel, by decide +kernel⟩ rfl (by decide) z4 hc ⟨sC.1.trans z1.symm, sC.2.1.trans z2.symm⟩ z3 hK hP1 (lw_D (Nat.le_refl _)) hS (fun q h9 => h9) (by decide) ⟨by decide, by decide⟩ (fun H1 locs1 hP1 hD1 hS hk1 hz1 => ?_)
  have hP2 := lw_apart hP2 (Or.inl (by rw [z1]; exact Nat.le_refl _)) hk1
  refine lv_aload_n hx hb (lw_d rfl) rfl (lv_at hl 1 rfl) ?_
  refine lv_aload_n hx hb (lw_d rfl) rfl (lv_at hl 3 rfl) ?_
  refine lv_iload_n hx hb (lw_d rfl) rfl (lv_at hl 0 rfl) ?_
  refine lv_iconst (v := 1) hx hb (lw_d rfl) (by decide) ?_
  refine lv_iadd hx hb (lw_d rfl) ?_
  refine va_sld (A := fun q => s.heap.size ≤ q) hx hb hX hbl hbA hS h1 (lw_d rfl) ?_
  refine lv_aload_n hx hb (lw_d rfl) rfl (lv_at hl 3 rfl) ?_
  refine lv_iload_n hx hb (lw_d rfl) rfl (lv_at hl 0 rfl) ?_
  refine lv_iconst (v := 2) hx hb (lw_d rfl) (by decide) ?_
  refine lv_iadd hx hb (lw_d rfl) ?_
  refine va_sld (A := fun q => s.heap.size ≤ q) hx hb hX hbl hbA hS h2 (lw_d rfl) ?_
  refine lw_call (k := 86) (np := 2) (as := [.int (xs (i + 1).toNatClampNeg), .int (xs (i + 2).toNatClampNeg)]) (rest := [.int r]) (bb := s.heap.size + 166) (A := fun q => s.heap.size ≤ q) ⟨hx, hb, hml, hown, hts⟩ hl.1 (lw_d rfl) (by decide) rfl rfl lw_m86 lw_n86 lw_s86 lw_iR ⟨by decide +kernel, by decide +kernel, by decide +kernel⟩ rfl (by decide) y4 hr ⟨sR.1.trans y1.symm, sR.2.1.trans y2.symm⟩ y3 hK hP2 (lw_D (Nat.le_add_right _ _)) hS (fun q h9 => h9) (Nat.le_of_ble_eq_true rfl) ⟨by decide, by decide⟩ (fun H2 locs2 hP2 hD2 hS hk2 hz2 => ?_)
  have hP1 := lw_apart hP1 (Or.inr (by rw [sC.1]; exact Nat.le_refl _)) hk2
  exact lv_icmp_eq hx hb (lw_d rfl) (tgt := 664) (by decide) (fun _ => kk H2 locs2 ⟨hP1, hP2, hS, sC, sR⟩) (fun h9 => absurd rfl h9)
set_option maxHeartbeats 4000000 in
set_option maxRecDepth 100000 in
theorem lw_case17 (S : CallFix p m c code 4 s #[Value.ref b] lw_tbl R_law) (hX : va_X b L xs s s.heap) (hbl : b < s.heap.size) (hK : va_K D rb_cl (rb_tys cA) s) (hl : lv_has arr 4 [(3, .int i), (2, .ref (s.heap.size + 166)), (1, .ref s.heap.size), (0, .ref b)]) (hI : lw_In D cA s hC hR H locs) (h1 : vp_in (i + 1) L) (h2 : vp_in (i + 2) L) {r : Int32} {hC' hR' : rb_H} (hc : rb_rel false 8 18 [.ref 0, .int (xs (i + 1).toNatClampNeg), .int (xs (i + 2).toNatClampNeg)] hC (some (.int r)) hC') (hr : rb_rel false 8 87 [.ref 0, .int (xs (i + 1).toNatClampNeg), .int (xs (i + 2).toNatClampNeg)] hR (some (.int r)) hR')
    (sC : hC'.1 = 166 ∧ hC'.2.1 = 1286 ∧ (∀ i, hC'.1 ≤ i → hC'.2.2 i = rb_blank) ∧ ∃ fs, hC'.2.2 0 = .inr (0, fs)) (sR : hR'.1 = 55 ∧ hR'.2.1 = 1603 ∧ (∀ i, hR'.1 ≤ i → hR'.2.2 i = rb_blank) ∧ ∃ fs, hR'.2.2 0 = .inr (7, fs))
    (kk : ∀ (H1 : Heap) (locs1 : List Loc), lw_In D cA s hC' hR' H1 locs1 → W p l e room_1 s m #[Value.ref b] below meth c H1 locs1 221 2889 Q (F0 m 664 arr [])) : W p l e room_1 s m #[Value.ref b] below meth c H locs 221 2889 Q (F0 m 631 arr []) := by
  obtain ⟨hx, hb, hml, hown, hts⟩ := S
  obtain ⟨hP1, hP2, hS, ⟨z1, z2, z3, fC, z4⟩, y1, y2, y3, fR, y4⟩ := hI
  have hbA : ¬ s.heap.size ≤ b := Nat.not_le.mpr hbl
  refine lv_aload_n hx hb (lw_d rfl) rfl (lv_at hl 2 rfl) ?_
  refine lv_aload_n hx hb (lw_d rfl) rfl (lv_at hl 3 rfl) ?_
  refine lv_iload_n hx hb (lw_d rfl) rfl (lv_at hl 0 rfl) ?_
  refine lv_iconst (v := 1) hx hb (lw_d rfl) (by decide) ?_
  refine lv_iadd hx hb (lw_d rfl) ?_
  refine va_sld (A := fun q => s.heap.size ≤ q) hx hb hX hbl hbA hS h1 (lw_d rfl) ?_
  refine lv_aload_n hx hb (lw_d rfl) rfl (lv_at hl 3 rfl) ?_
  refine lv_iload_n hx hb (lw_d rfl) rfl (lv_at hl 0 rfl) ?_
  refine lv_iconst (v := 2) hx hb (lw_d rfl) (by decide) ?_
  refine lv_iadd hx hb (lw_d rfl) ?_
  refine va_sld (A := fun q => s.heap.size ≤ q) hx hb hX hbl hbA hS h2 (lw_d rfl) ?_
  refine lw_call (k := 18) (np := 2) (as := [.int (xs (i + 1).toNatClampNeg), .int (xs (i + 2).toNatClampNeg)]) (rest := []) (bb := s.heap.size) (A := fun q => s.heap.size ≤ q) ⟨hx, hb, hml, hown, hts⟩ hl.1 (lw_d rfl) (by decide) rfl rfl lw_m18 lw_n18 lw_s18 lw_iC ⟨by decide +kernel, by decide +kernel, by decide +kernel⟩ rfl (by decide) z4 hc ⟨sC.1.trans z1.symm, sC.2.1.trans z2.symm⟩ z3 hK hP1 (lw_D (Nat.le_refl _)) hS (fun q h9 => h9) (by decide) ⟨by decide, by decide⟩ (fun H1 locs1 hP1 hD1 hS hk1 hz1 => ?_)
  have hP2 := lw_apart hP2 (Or.inl (by rw [z1]; exact Nat.le_refl _)) hk1
  refine lv_aload_n hx hb (lw_d rfl) rfl (lv_at hl 1 rfl) ?_
  refine lv_aload_n hx hb (lw_d rfl) rfl (lv_at hl 3 rfl) ?_
  refine lv_iload_n hx hb (lw_d rfl) rfl (lv_at hl 0 rfl) ?_
  refine lv_iconst (v := 1) hx hb (lw_d rfl) (by decide) ?_
  refine lv_iadd hx hb (lw_d rfl) ?_
  refine va_sld (A := fun q => s.heap.size ≤ q) hx hb hX hbl hbA hS h1 (lw_d rfl) ?_
  refine lv_aload_n hx hb (lw_d rfl) rfl (lv_at hl 3 rfl) ?_
  refine lv_iload_n hx hb (lw_d rfl) rfl (lv_at hl 0 rfl) ?_
  refine lv_iconst (v := 2) hx hb (lw_d rfl) (by decide) ?_
  refine lv_iadd hx hb (lw_d rfl) ?_
  refine va_sld (A := fun q => s.heap.size ≤ q) hx hb hX hbl hbA hS h2 (lw_d rfl) ?_
  refine lw_call (k := 87) (np := 2) (as := [.int (xs (i + 1).toNatClampNeg), .int (xs (i + 2).toNatClampNeg)]) (rest := [.int r]) (bb := s.heap.size + 166) (A := fun q => s.heap.size ≤ q) ⟨hx, hb, hml, hown, hts⟩ hl.1 (lw_d rfl) (by decide) rfl rfl lw_m87 lw_n87 lw_s87 lw_iR ⟨by decide +kernel, by decide +kernel, by decide +kernel⟩ rfl (by decide) y4 hr ⟨sR.1.trans y1.symm, sR.2.1.trans y2.symm⟩ y3 hK hP2 (lw_D (Nat.le_add_right _ _)) hS (fun q h9 => h9) (Nat.le_of_ble_eq_true rfl) ⟨by decide, by decide⟩ (fun H2 locs2 hP2 hD2 hS hk2 hz2 => ?_)
  have hP1 := lw_apart hP1 (Or.inr (by rw [sC.1]; exact Nat.le_refl _)) hk2
  exact lv_icmp_eq hx hb (lw_d rfl) (tgt := 664) (by decide) (fun _ => kk H2 locs2 ⟨hP1, hP2, hS, sC, sR⟩) (fun h9 => absurd rfl h9)
end LWK
end
section
/-! the law out of pure runs: from here on nothing speaks of the machine but this -/
def lw_tab : List (Nat × Nat × Nat) := [(1, 69, 2), (2, 70, 3), (3, 72, 1), (4, 73, 1), (5, 74, 2), (6, 75, 2), (7, 76, 2), (8, 77, 3), (9, 79, 1), (10, 80, 2), (11, 81, 1), (12, 68, 1), (13, 82, 1), (14, 83, 1), (15, 84, 1), (16, 85, 3), (17, 86, 2), (18, 87, 2)]
def lw_cs (j : Nat) : Nat × Nat × Nat := lw_tab.getD j (0, 0, 0)
def lw_sC (h : rb_H) : Prop := h.1 = 166 ∧ h.2.1 = 1286 ∧ (∀ i, h.1 ≤ i → h.2.2 i = rb_blank) ∧ ∃ fs, h.2.2 0 = .inr (0, fs)
def lw_sR (h : rb_H) : Prop := h.1 = 55 ∧ h.2.1 = 1603 ∧ (∀ i, h.1 ≤ i → h.2.2 i = rb_blank) ∧ ∃ fs, h.2.2 0 = .inr (7, fs)
/-- both answer alike, and what is good stays good -/
def lw_pair (Good : Nat → rb_H → rb_H → Prop) (k1 k2 n : Nat) (hC hR : rb_H) (as : List Value) : Prop := ∃ (r : Int32) (hC' hR' : rb_H), rb_rel false 8 k1 (.ref 0 :: as) hC (some (.int r)) hC' ∧ rb_rel false 8 k2 (.ref 0 :: as) hR (some (.int r)) hR' ∧ Good (n + 1) hC' hR'
def lw_Ok (N : Nat) (Good : Nat → rb_H → rb_H → Prop) : Prop := (∀ n hC hR, Good n hC hR → lw_sC hC ∧ lw_sR hR ∧ Good (n + 1) hC hR) ∧ ∀ n hC hR, n < N → Good n hC hR → ∀ j, j < 18 → ∀ a1 a2 a3 : Int32, lw_pair Good (lw_cs j).1 (lw_cs j).2.1 n hC hR (([.int a1, .int a2, .int a3] : List Value).take (lw_cs j).2.2)
theorem lw_sub4 {L n : Nat} (hL : L ≤ 2048) (hn : 4 * n ≤ 4096) : (Int32.ofNat L - 4 < nI (4 * n)) ↔ L < 4 * n + 4 := by
  have h1 : (Int32.ofNat L).toInt = (L : Int) := nI_toInt (n := L) (by omega)
  have h2 : (nI (4 * n)).toInt = ((4 * n : Nat) : Int) := nI_toInt (by omega)
  have h3 : (4 : Int32).toInt = 4 := by decide
  have h4 : (Int32.ofNat L - 4).toInt = (L : Int) - 4 := by
    rw [Int32.toInt_sub, h1, h3, Int.bmod_def]
    split <;> omega
  rw [Int32.lt_iff_toInt_lt, h4, h2]
  omega
theorem lw_nI2 (a : Nat) : nI a + 2 = nI (a + 2) := nI_add a 2
theorem lw_nI3 (a : Nat) : nI a + 3 = nI (a + 3) := nI_add a 3
theorem lw_nI4 (a : Nat) : nI a + Int32.ofInt 4 = nI (a + 4) := nI_add a 4
section LWE
variable {p : Program} {l : Launch} {e : Env} {s : State} {m : MethodId} {below : List Frame} {meth : Method} {c : Code} {b L : Nat} {xs : Nat → Int32}
set_option maxRecDepth 100000 in
theorem lw_exit (hx : p.tables.exec = Jvm.exec) (hb : c.code = code) (hr : meth.sig.returnType = ret) (hlocks : meth.locks = false) (hX : va_X b L xs s s.heap) (hbl : b < s.heap.size) (hL : L ≤ 2048) {n : Nat} (hn : 4 * n ≤ 4096) (hend : L < 4 * n + 4) {H : Heap} {locs : List Loc} {arr : Array Slot} {x1 x2 : Nat} (hS : va_S (fun q => s.heap.size ≤ q) s.heap H locs) (hl : lv_has arr 4 [(3, .int (nI (4 * n))), (2, .ref x2), (1, .ref x1), (0, .ref b)]) : W p l e room_1 s m #[Value.ref b] below meth c H locs 221 2889 (lw_Z below #[Value.ref b] s) (F0 m 18 arr []) := by
  have hbA : ¬ s.heap.size ≤ b := Nat.not_le.mpr hbl
  refine lv_iload_n hx hb (lw_d rfl) rfl (lv_at hl 0 rfl) ?_
  refine lv_aload_n hx hb (lw_d rfl) rfl (lv_at hl 3 rfl) ?_
  refine va_slen (A := fun q => s.heap.size ≤ q) hx hb hX hbl hbA hS (lw_d rfl) ?_
  refine lv_iconst (v := 4) hx hb (lw_d rfl) (by decide) ?_
  refine lv_isub hx hb (lw_d rfl) ?_
  refine lv_icmp_gt (tgt := 670) hx hb (lw_d rfl) (by decide) (fun _ => ?_) (fun h9 => absurd ((lw_sub4 hL hn).mpr hend) h9)
  refine lv_iconst (v := 1) hx hb (lw_d rfl) (by decide) ?_
  refine va_forget hS.2.2 ?_
  refine W.widen (k := 600000) (n := 7302250) (by decide) (by decide) ?_
  exact lw_ret hx hb hr hlocks (lw_d rfl)
end LWE
section LWL
variable {p : Program} {l : Launch} {e : Env} {s : State} {m : MethodId} {below : List Frame} {meth : Method} {c : Code} {b L : Nat} {xs : Nat → Int32} {D : va_G} {cA : Nat → ClassId}
set_option maxHeartbeats 8000000 in
set_option maxRecDepth 100000 in
theorem lw_loop {N : Nat} {Good : Nat → rb_H → rb_H → Prop} (G : lw_Ok N Good) (hL : L ≤ 2048) (hN : L ≤ 4 * N) (S : CallFix p m c code 4 s #[Value.ref b] lw_tbl R_law) (hr : meth.sig.returnType = ret) (hlocks : meth.locks = false) (hX : va_X b L xs s s.heap) (hbl : b < s.heap.size) (hK : va_K D rb_cl (rb_tys cA) s) : ∀ (f n : Nat) (hC hR : rb_H) (H : Heap) (locs : List Loc) (arr : Array Slot), L < 4 * (n + f) → 4 * n ≤ L + 4 → Good n hC hR → lw_In D cA s hC hR H locs → lv_has arr 4 [(3, .int (nI (4 * n))), (2, .ref (s.heap.size + 166)), (1, .ref s.heap.size), (0, .ref b)] → W p l e room_1 s m #[Value.ref b] below meth c H locs 221 2889 (lw_Z below #[Value.ref b] s) (F0 m 18 arr []) := by
  intro f
  have hS9 := S
  obtain ⟨hx, hb, hml, hown, hts⟩ := S
  have hbA : ¬ s.heap.size ≤ b := Nat.not_le.mpr hbl
  induction f with
  | zero => intro n hC hR H locs arr hf hn hG hI hl; exact lw_exit hx hb hr hlocks hX hbl hL (by omega) (by omega) hI.2.2.1 hl
  | succ f ih =>
    intro n hC hR H locs arr hf hn hG hI hl
    by_cases hend : L < 4 * n + 4
    · exact lw_exit hx hb hr hlocks hX hbl hL (by omega) hend hI.2.2.1 hl
    have hS := hI.2.2.1
    have v0 : vp_in (nI (4 * n)) L := vp_in_nI (by omega) (by omega)
    have v1 : vp_in (nI (4 * n) + 1) L := by rw [nI_1]; exact vp_in_nI (by omega) (by omega)
    have v2 : vp_in (nI (4 * n) + 2) L := by rw [lw_nI2]; exact vp_in_nI (by omega) (by omega)
    have v3 : vp_in (nI (4 * n) + 3) L := by rw [lw_nI3]; exact vp_in_nI (by omega) (by omega)
    have back : ∀ (hC' hR' : rb_H) (H1 : Heap) (locs1 : List Loc), Good (n + 1) hC' hR' → lw_In D cA s hC' hR' H1 locs1 → W p l e room_1 s m #[Value.ref b] below meth c H1 locs1 221 2889 (lw_Z below #[Value.ref b] s) (F0 m 664 arr []) := by
      intro hC' hR' H1 locs1 hG1 hI1
      refine lv_iinc (k := 0) (v := nI (4 * (n + 1))) hx hb (lw_d rfl) hl rfl (by rw [lw_nI4]; rfl) (by decide) rfl (fun ls' h' => ?_)
      refine lv_goto (tgt := 18) hx hb (lw_d rfl) (by decide) ?_
      exact ih (n + 1) hC' hR' H1 locs1 ls' (by omega) (by omega) hG1 hI1 h'
    refine lv_iload_n hx hb (lw_d rfl) rfl (lv_at hl 0 rfl) ?_
    refine lv_aload_n hx hb (lw_d rfl) rfl (lv_at hl 3 rfl) ?_
    refine va_slen (A := fun q => s.heap.size ≤ q) hx hb hX hbl hbA hS (lw_d rfl) ?_
    refine lv_iconst (v := 4) hx hb (lw_d rfl) (by decide) ?_
    refine lv_isub hx hb (lw_d rfl) ?_
    refine lv_icmp_gt (tgt := 670) hx hb (lw_d rfl) (by decide) (fun h9 => absurd ((lw_sub4 hL (by omega)).mp h9) hend) (fun _ => ?_)
    refine lv_aload_n hx hb (lw_d rfl) rfl (lv_at hl 3 rfl) ?_
    refine lv_iload_n hx hb (lw_d rfl) rfl (lv_at hl 0 rfl) ?_
    refine va_sld (A := fun q => s.heap.size ≤ q) hx hb hX hbl hbA hS v0 (lw_d rfl) ?_
    refine lv_bipush (v := 31) hx hb (lw_d rfl) (by decide) ?_
    refine lv_iand hx hb (lw_d rfl) ?_
    refine lv_topi (fun u _ => ?_)
    by_cases hu : u.toInt < 0 ∨ 17 < u.toInt
    · exact lv_tableOut (tgt := 664) hx hb (lw_d rfl) hu (by decide) (back hC hR H locs (G.1 n hC hR hG).2.2 hI)
    have hG3 := G.2 n hC hR (by omega) hG
    have hu2 : u.toInt = 0 ∨ u.toInt = 1 ∨ u.toInt = 2 ∨ u.toInt = 3 ∨ u.toInt = 4 ∨ u.toInt = 5 ∨ u.toInt = 6 ∨ u.toInt = 7 ∨ u.toInt = 8 ∨ u.toInt = 9 ∨ u.toInt = 10 ∨ u.toInt = 11 ∨ u.toInt = 12 ∨ u.toInt = 13 ∨ u.toInt = 14 ∨ u.toInt = 15 ∨ u.toInt = 16 ∨ u.toInt = 17 := by omega
    rcases hu2 with hu | hu | hu | hu | hu | hu | hu | hu | hu | hu | hu | hu | hu | hu | hu | hu | hu | hu
    · refine lv_tableIn (tgt := 120) hx hb (lw_d rfl) (by omega) (by omega) (by rw [hu]; rfl) (by decide) ?_
      obtain ⟨r, hC', hR', e1, e2, e3⟩ := hG3 0 (by decide) (xs (nI (4 * n) + 1).toNatClampNeg) (xs (nI (4 * n) + 2).toNatClampNeg) (xs (nI (4 * n) + 3).toNatClampNeg)
      exact lw_case0 hS9 hX hbl hK hl hI v1 v2 e1 e2 (G.1 _ _ _ e3).1 (G.1 _ _ _ e3).2.1 (fun H1 locs1 hI1 => back hC' hR' H1 locs1 e3 hI1)
    · refine lv_tableIn (tgt := 153) hx hb (lw_d rfl) (by omega) (by omega) (by rw [hu]; rfl) (by decide) ?_
      obtain ⟨r, hC', hR', e1, e2, e3⟩ := hG3 1 (by decide) (xs (nI (4 * n) + 1).toNatClampNeg) (xs (nI (4 * n) + 2).toNatClampNeg) (xs (nI (4 * n) + 3).toNatClampNeg)
      exact lw_case1 hS9 hX hbl hK hl hI v1 v2 v3 e1 e2 (G.1 _ _ _ e3).1 (G.1 _ _ _ e3).2.1 (fun H1 locs1 hI1 => back hC' hR' H1 locs1 e3 hI1)
    · refine lv_tableIn (tgt := 196) hx hb (lw_d rfl) (by omega) (by omega) (by rw [hu]; rfl) (by decide) ?_
      obtain ⟨r, hC', hR', e1, e2, e3⟩ := hG3 2 (by decide) (xs (nI (4 * n) + 1).toNatClampNeg) (xs (nI (4 * n) + 2).toNatClampNeg) (xs (nI (4 * n) + 3).toNatClampNeg)
      exact lw_case2 hS9 hX hbl hK hl hI v1 e1 e2 (G.1 _ _ _ e3).1 (G.1 _ _ _ e3).2.1 (fun H1 locs1 hI1 => back hC' hR' H1 locs1 e3 hI1)
    · refine lv_tableIn (tgt := 219) hx hb (lw_d rfl) (by omega) (by omega) (by rw [hu]; rfl) (by decide) ?_
      obtain ⟨r, hC', hR', e1, e2, e3⟩ := hG3 3 (by decide) (xs (nI (4 * n) + 1).toNatClampNeg) (xs (nI (4 * n) + 2).toNatClampNeg) (xs (nI (4 * n) + 3).toNatClampNeg)
      exact lw_case3 hS9 hX hbl hK hl hI v1 e1 e2 (G.1 _ _ _ e3).1 (G.1 _ _ _ e3).2.1 (fun H1 locs1 hI1 => back hC' hR' H1 locs1 e3 hI1)
    · refine lv_tableIn (tgt := 242) hx hb (lw_d rfl) (by omega) (by omega) (by rw [hu]; rfl) (by decide) ?_
      obtain ⟨r, hC', hR', e1, e2, e3⟩ := hG3 4 (by decide) (xs (nI (4 * n) + 1).toNatClampNeg) (xs (nI (4 * n) + 2).toNatClampNeg) (xs (nI (4 * n) + 3).toNatClampNeg)
      exact lw_case4 hS9 hX hbl hK hl hI v1 v2 e1 e2 (G.1 _ _ _ e3).1 (G.1 _ _ _ e3).2.1 (fun H1 locs1 hI1 => back hC' hR' H1 locs1 e3 hI1)
    · refine lv_tableIn (tgt := 275) hx hb (lw_d rfl) (by omega) (by omega) (by rw [hu]; rfl) (by decide) ?_
      obtain ⟨r, hC', hR', e1, e2, e3⟩ := hG3 5 (by decide) (xs (nI (4 * n) + 1).toNatClampNeg) (xs (nI (4 * n) + 2).toNatClampNeg) (xs (nI (4 * n) + 3).toNatClampNeg)
      exact lw_case5 hS9 hX hbl hK hl hI v1 v2 e1 e2 (G.1 _ _ _ e3).1 (G.1 _ _ _ e3).2.1 (fun H1 locs1 hI1 => back hC' hR' H1 locs1 e3 hI1)
    · refine lv_tableIn (tgt := 308) hx hb (lw_d rfl) (by omega) (by omega) (by rw [hu]; rfl) (by decide) ?_
      obtain ⟨r, hC', hR', e1, e2, e3⟩ := hG3 6 (by decide) (xs (nI (4 * n) + 1).toNatClampNeg) (xs (nI (4 * n) + 2).toNatClampNeg) (xs (nI (4 * n) + 3).toNatClampNeg)
      exact lw_case6 hS9 hX hbl hK hl hI v1 v2 e1 e2 (G.1 _ _ _ e3).1 (G.1 _ _ _ e3).2.1 (fun H1 locs1 hI1 => back hC' hR' H1 locs1 e3 hI1)
    · refine lv_tableIn (tgt := 341) hx hb (lw_d rfl) (by omega) (by omega) (by rw [hu]; rfl) (by decide) ?_
      obtain ⟨r, hC', hR', e1, e2, e3⟩ := hG3 7 (by decide) (xs (nI (4 * n) + 1).toNatClampNeg) (xs (nI (4 * n) + 2).toNatClampNeg) (xs (nI (4 * n) + 3).toNatClampNeg)
      exact lw_case7 hS9 hX hbl hK hl hI v1 v2 v3 e1 e2 (G.1 _ _ _ e3).1 (G.1 _ _ _ e3).2.1 (fun H1 locs1 hI1 => back hC' hR' H1 locs1 e3 hI1)
    · refine lv_tableIn (tgt := 384) hx hb (lw_d rfl) (by omega) (by omega) (by rw [hu]; rfl) (by decide) ?_
      obtain ⟨r, hC', hR', e1, e2, e3⟩ := hG3 8 (by decide) (xs (nI (4 * n) + 1).toNatClampNeg) (xs (nI (4 * n) + 2).toNatClampNeg) (xs (nI (4 * n) + 3).toNatClampNeg)
      exact lw_case8 hS9 hX hbl hK hl hI v1 e1 e2 (G.1 _ _ _ e3).1 (G.1 _ _ _ e3).2.1 (fun H1 locs1 hI1 => back hC' hR' H1 locs1 e3 hI1)
    · refine lv_tableIn (tgt := 407) hx hb (lw_d rfl) (by omega) (by omega) (by rw [hu]; rfl) (by decide) ?_
      obtain ⟨r, hC', hR', e1, e2, e3⟩ := hG3 9 (by decide) (xs (nI (4 * n) + 1).toNatClampNeg) (xs (nI (4 * n) + 2).toNatClampNeg) (xs (nI (4 * n) + 3).toNatClampNeg)
      exact lw_case9 hS9 hX hbl hK hl hI v1 v2 e1 e2 (G.1 _ _ _ e3).1 (G.1 _ _ _ e3).2.1 (fun H1 locs1 hI1 => back hC' hR' H1 locs1 e3 hI1)
    · refine lv_tableIn (tgt := 440) hx hb (lw_d rfl) (by omega) (by omega) (by rw [hu]; rfl) (by decide) ?_
      obtain ⟨r, hC', hR', e1, e2, e3⟩ := hG3 10 (by decide) (xs (nI (4 * n) + 1).toNatClampNeg) (xs (nI (4 * n) + 2).toNatClampNeg) (xs (nI (4 * n) + 3).toNatClampNeg)
      exact lw_case10 hS9 hX hbl hK hl hI v1 e1 e2 (G.1 _ _ _ e3).1 (G.1 _ _ _ e3).2.1 (fun H1 locs1 hI1 => back hC' hR' H1 locs1 e3 hI1)
    · refine lv_tableIn (tgt := 463) hx hb (lw_d rfl) (by omega) (by omega) (by rw [hu]; rfl) (by decide) ?_
      obtain ⟨r, hC', hR', e1, e2, e3⟩ := hG3 11 (by decide) (xs (nI (4 * n) + 1).toNatClampNeg) (xs (nI (4 * n) + 2).toNatClampNeg) (xs (nI (4 * n) + 3).toNatClampNeg)
      exact lw_case11 hS9 hX hbl hK hl hI v1 e1 e2 (G.1 _ _ _ e3).1 (G.1 _ _ _ e3).2.1 (fun H1 locs1 hI1 => back hC' hR' H1 locs1 e3 hI1)
    · refine lv_tableIn (tgt := 486) hx hb (lw_d rfl) (by omega) (by omega) (by rw [hu]; rfl) (by decide) ?_
      obtain ⟨r, hC', hR', e1, e2, e3⟩ := hG3 12 (by decide) (xs (nI (4 * n) + 1).toNatClampNeg) (xs (nI (4 * n) + 2).toNatClampNeg) (xs (nI (4 * n) + 3).toNatClampNeg)
      exact lw_case12 hS9 hX hbl hK hl hI v1 e1 e2 (G.1 _ _ _ e3).1 (G.1 _ _ _ e3).2.1 (fun H1 locs1 hI1 => back hC' hR' H1 locs1 e3 hI1)
    · refine lv_tableIn (tgt := 509) hx hb (lw_d rfl) (by omega) (by omega) (by rw [hu]; rfl) (by decide) ?_
      obtain ⟨r, hC', hR', e1, e2, e3⟩ := hG3 13 (by decide) (xs (nI (4 * n) + 1).toNatClampNeg) (xs (nI (4 * n) + 2).toNatClampNeg) (xs (nI (4 * n) + 3).toNatClampNeg)
      exact lw_case13 hS9 hX hbl hK hl hI v1 e1 e2 (G.1 _ _ _ e3).1 (G.1 _ _ _ e3).2.1 (fun H1 locs1 hI1 => back hC' hR' H1 locs1 e3 hI1)
    · refine lv_tableIn (tgt := 532) hx hb (lw_d rfl) (by omega) (by omega) (by rw [hu]; rfl) (by decide) ?_
      obtain ⟨r, hC', hR', e1, e2, e3⟩ := hG3 14 (by decide) (xs (nI (4 * n) + 1).toNatClampNeg) (xs (nI (4 * n) + 2).toNatClampNeg) (xs (nI (4 * n) + 3).toNatClampNeg)
      exact lw_case14 hS9 hX hbl hK hl hI v1 e1 e2 (G.1 _ _ _ e3).1 (G.1 _ _ _ e3).2.1 (fun H1 locs1 hI1 => back hC' hR' H1 locs1 e3 hI1)
    · refine lv_tableIn (tgt := 555) hx hb (lw_d rfl) (by omega) (by omega) (by rw [hu]; rfl) (by decide) ?_
      obtain ⟨r, hC', hR', e1, e2, e3⟩ := hG3 15 (by decide) (xs (nI (4 * n) + 1).toNatClampNeg) (xs (nI (4 * n) + 2).toNatClampNeg) (xs (nI (4 * n) + 3).toNatClampNeg)
      exact lw_case15 hS9 hX hbl hK hl hI v1 v2 v3 e1 e2 (G.1 _ _ _ e3).1 (G.1 _ _ _ e3).2.1 (fun H1 locs1 hI1 => back hC' hR' H1 locs1 e3 hI1)
    · refine lv_tableIn (tgt := 598) hx hb (lw_d rfl) (by omega) (by omega) (by rw [hu]; rfl) (by decide) ?_
      obtain ⟨r, hC', hR', e1, e2, e3⟩ := hG3 16 (by decide) (xs (nI (4 * n) + 1).toNatClampNeg) (xs (nI (4 * n) + 2).toNatClampNeg) (xs (nI (4 * n) + 3).toNatClampNeg)
      exact lw_case16 hS9 hX hbl hK hl hI v1 v2 e1 e2 (G.1 _ _ _ e3).1 (G.1 _ _ _ e3).2.1 (fun H1 locs1 hI1 => back hC' hR' H1 locs1 e3 hI1)
    · refine lv_tableIn (tgt := 631) hx hb (lw_d rfl) (by omega) (by omega) (by rw [hu]; rfl) (by decide) ?_
      obtain ⟨r, hC', hR', e1, e2, e3⟩ := hG3 17 (by decide) (xs (nI (4 * n) + 1).toNatClampNeg) (xs (nI (4 * n) + 2).toNatClampNeg) (xs (nI (4 * n) + 3).toNatClampNeg)
      exact lw_case17 hS9 hX hbl hK hl hI v1 v2 e1 e2 (G.1 _ _ _ e3).1 (G.1 _ _ _ e3).2.1 (fun H1 locs1 hI1 => back hC' hR' H1 locs1 e3 hI1)
end LWL
end
section
/-! the law's start: the tables, the two constructors -/
-- words
set_option maxRecDepth 1000000 in
theorem lw_in0 : Cond.instantiable "RingBridges" 4 ∈ lw_tbl := List.mem_of_getElem? (i := 48) rfl
set_option maxRecDepth 1000000 in
theorem lw_in1 : Cond.instantiable "RingBridges$Ring" 10 ∈ lw_tbl := List.mem_of_getElem? (i := 57) rfl
set_option maxRecDepth 1000000 in
theorem lw_in2 : Cond.instantiable "RingBridges$Node" 7 ∈ lw_tbl := List.mem_of_getElem? (i := 64) rfl
set_option maxRecDepth 1000000 in
theorem lw_in3 : Cond.instantiable "RingBridges$Frame" 11 ∈ lw_tbl := List.mem_of_getElem? (i := 71) rfl
set_option maxRecDepth 1000000 in
theorem lw_in4 : Cond.instantiable "RingBridges$Signal" 8 ∈ lw_tbl := List.mem_of_getElem? (i := 152) rfl
set_option maxRecDepth 1000000 in
theorem lw_in5 : Cond.instantiable "RingBridges$Link" 17 ∈ lw_tbl := List.mem_of_getElem? (i := 241) rfl
set_option maxRecDepth 1000000 in
theorem lw_in6 : Cond.instantiable "RingBridges$ByteRow" 4 ∈ lw_tbl := List.mem_of_getElem? (i := 247) rfl
set_option maxRecDepth 1000000 in
theorem lw_in7 : Cond.instantiable "RingBridgesModel" 55 ∈ lw_tbl := List.mem_of_getElem? (i := 681) rfl
set_option maxRecDepth 1000000 in
theorem lw_ai : Cond.arrayClass .int ∈ lw_tbl := List.mem_of_getElem? (i := 150) rfl
set_option maxRecDepth 1000000 in
theorem lw_az : Cond.arrayClass .boolean ∈ lw_tbl := List.mem_of_getElem? (i := 852) rfl
set_option maxRecDepth 1000000 in
theorem lw_a2 : Cond.arrayOver (.object "RingBridges$Ring") ∈ lw_tbl := List.mem_of_getElem? (i := 56) rfl
set_option maxRecDepth 1000000 in
theorem lw_a3 : Cond.arrayOver (.object "RingBridges$Node") ∈ lw_tbl := List.mem_of_getElem? (i := 63) rfl
set_option maxRecDepth 1000000 in
theorem lw_a4 : Cond.arrayOver (.object "RingBridges$Frame") ∈ lw_tbl := List.mem_of_getElem? (i := 70) rfl
set_option maxRecDepth 1000000 in
theorem lw_a5 : Cond.arrayOver (.object "RingBridges$Link") ∈ lw_tbl := List.mem_of_getElem? (i := 240) rfl
set_option maxRecDepth 1000000 in
theorem lw_a6 : Cond.arrayOver (.array .int) ∈ lw_tbl := List.mem_of_getElem? (i := 336) rfl
set_option maxRecDepth 1000000 in
theorem lw_x1 : Cond.methodLinkNest "RingBridges$Node" 17 ⟨"RingBridges$Frame", "<init>", "()V"⟩ "RingBridges" ∈ lw_tbl := List.mem_of_getElem? (i := 72) rfl
set_option maxRecDepth 1000000 in
theorem lw_x2 : Cond.methodLinkNest "RingBridges$Signal" 11 ⟨"RingBridges$Frame", "<init>", "()V"⟩ "RingBridges" ∈ lw_tbl := List.mem_of_getElem? (i := 158) rfl
set_option maxRecDepth 1000000 in
theorem lw_mlC : Cond.methodLink R_law 9 (rb_y 0) ∈ lw_tbl := List.mem_of_getElem? (i := 49) rfl
set_option maxRecDepth 1000000 in
theorem lw_miC : Cond.instanceMethod (rb_y 0) ∈ lw_tbl := List.mem_of_getElem? (i := 50) rfl
set_option maxRecDepth 1000000 in
theorem lw_mlR : Cond.methodLink R_law 12 (rb_y 43) ∈ lw_tbl := List.mem_of_getElem? (i := 682) rfl
set_option maxRecDepth 1000000 in
theorem lw_miR : Cond.instanceMethod (rb_y 43) ∈ lw_tbl := List.mem_of_getElem? (i := 683) rfl
set_option maxRecDepth 1000000 in
theorem lw_clC : Cond.classLink R_law 7 "RingBridges" ∈ lw_tbl := List.mem_of_getElem? (i := 47) rfl
set_option maxRecDepth 1000000 in
theorem lw_clR : Cond.classLink R_law 10 "RingBridgesModel" ∈ lw_tbl := List.mem_of_getElem? (i := 680) rfl
section LWS
variable {s : State} {args : Array Value}
theorem lw_cell (hts : ∀ w ∈ lw_tbl, w.before args s = true) : ∃ D : va_G, ∀ (ci : Nat) (q : vw_C), rb_cl[ci]? = some q → u_Kn s q.1 q.2.1 q.2.2 (D.1 ci) (D.2 ci) := by
  have h : ∀ ci : Nat, ∃ (cC : ClassId) (iS : Nat → Nat), ∀ q : vw_C, rb_cl[ci]? = some q → u_Kn s q.1 q.2.1 q.2.2 cC iS := by
    intro ci
    cases hq : rb_cl[ci]? with
    | none => exact ⟨0, fun _ => 0, fun q h9 => by cases h9⟩
    | some q =>
      have hin : ∀ w ∈ u_ws q.1 q.2.1 q.2.2, w ∈ lw_tbl := fun w hw => rb_ws_tbl (rb_lay_in hq w hw)
      have hi : Cond.instantiable q.1 q.2.2 ∈ lw_tbl := by
        rcases rb_cl_cases hq with ⟨-, rfl⟩ | ⟨-, rfl⟩ | ⟨-, rfl⟩ | ⟨-, rfl⟩ | ⟨-, rfl⟩ | ⟨-, rfl⟩ | ⟨-, rfl⟩ | ⟨-, rfl⟩
        · exact lw_in0
        · exact lw_in1
        · exact lw_in2
        · exact lw_in3
        · exact lw_in4
        · exact lw_in5
        · exact lw_in6
        · exact lw_in7
      obtain ⟨cC, iS, hu⟩ := u_known hts hin (hts _ hi)
      exact ⟨cC, iS, fun q' h9 => by cases h9; exact hu⟩
  refine ⟨(fun ci => Classical.choose (h ci), fun ci => Classical.choose (Classical.choose_spec (h ci))), fun ci q hq => ?_⟩
  exact Classical.choose_spec (Classical.choose_spec (h ci)) q hq
theorem lw_arr (hts : ∀ w ∈ lw_tbl, w.before args s = true) : ∃ cA : Nat → ClassId, ∀ t, t < 7 → ArrOfT s (cA t) (rb_aty t) ∧ va_RA s (cA t) (rb_aty t) := by
  have prim : ∀ ty : FieldType, Cond.arrayClass ty ∈ lw_tbl → (∀ cX, va_RA s cX ty ↔ s.vm.findClass ("[" ++ ty.toString) = some cX) → ∃ cX : ClassId, ArrOfT s cX ty ∧ va_RA s cX ty := by
    intro ty hw hra
    obtain ⟨cX, k, comp, h1, h2, h3⟩ := Cond.arrayClass_spec (hts _ hw)
    exact ⟨cX, fun n z => ⟨fun k h => (by cases h), k, h2, comp, h3⟩, (hra cX).mpr h1⟩
  have obj : ∀ C : String, Cond.arrayOver (.object C) ∈ lw_tbl → ∃ cX : ClassId, ArrOfT s cX (.object C) ∧ va_RA s cX (.object C) := by
    intro C hw
    obtain ⟨comp, cX, k, h1, -, h2, h3, h4⟩ := Cond.arrayOver_spec (hts _ hw)
    exact ⟨cX, fun n z => ⟨fun k h => (by cases h), k, h2, comp, h3⟩, k, comp, h2, h3, h1, h4⟩
  have h : ∀ t, ∃ cX : ClassId, t < 7 → ArrOfT s cX (rb_aty t) ∧ va_RA s cX (rb_aty t) := by
    intro t
    match t with
    | 0 => obtain ⟨cX, h9⟩ := prim .int lw_ai (fun _ => Iff.rfl); exact ⟨cX, fun _ => h9⟩
    | 1 => obtain ⟨cX, h9⟩ := prim .boolean lw_az (fun _ => Iff.rfl); exact ⟨cX, fun _ => h9⟩
    | 2 => obtain ⟨cX, h9⟩ := obj "RingBridges$Ring" lw_a2; exact ⟨cX, fun _ => h9⟩
    | 3 => obtain ⟨cX, h9⟩ := obj "RingBridges$Node" lw_a3; exact ⟨cX, fun _ => h9⟩
    | 4 => obtain ⟨cX, h9⟩ := obj "RingBridges$Frame" lw_a4; exact ⟨cX, fun _ => h9⟩
    | 5 => obtain ⟨cX, h9⟩ := obj "RingBridges$Link" lw_a5; exact ⟨cX, fun _ => h9⟩
    | 6 =>
      obtain ⟨comp, cX, k, h1, -, h2, h3, h4⟩ := arrayOverA_spec (hts _ lw_a6)
      exact ⟨cX, fun _ => ⟨fun n z => ⟨fun k h => (by cases h), k, h2, comp, h3⟩, h4⟩⟩
    | n + 7 => exact ⟨0, fun h9 => absurd h9 (by omega)⟩
  exact ⟨fun t => Classical.choose (h t), fun t ht => Classical.choose_spec (h t) ht⟩
theorem lw_K (hts : ∀ w ∈ lw_tbl, w.before args s = true) : ∃ (D : va_G) (cA : Nat → ClassId), va_K D rb_cl (rb_tys cA) s := by
  obtain ⟨D, hD⟩ := lw_cell hts
  obtain ⟨cA, hA⟩ := lw_arr hts
  refine ⟨D, cA, hD, fun k q hq => ?_⟩
  have hk : k < 7 := by
    have := (List.getElem?_eq_some_iff.mp hq).1
    simpa [rb_tys] using this
  rw [rb_tys_at cA hk] at hq
  cases hq
  exact hA k hk
theorem lw_E (hts : ∀ w ∈ lw_tbl, w.before args s = true) : rb_E s := by
  refine ⟨fun C hC => ?_, hts _ lw_a6, fun w hw => ?_⟩
  · have : C = "RingBridges$Ring" ∨ C = "RingBridges$Node" ∨ C = "RingBridges$Frame" ∨ C = "RingBridges$Link" := by simpa [rb_aos] using hC
    rcases this with rfl | rfl | rfl | rfl
    · exact va_AO.of (hts _ lw_a2)
    · exact va_AO.of (hts _ lw_a3)
    · exact va_AO.of (hts _ lw_a4)
    · exact va_AO.of (hts _ lw_a5)
  · have hc : w = .methodLinkNest "RingBridges$Node" 17 ⟨"RingBridges$Frame", "<init>", "()V"⟩ "RingBridges" ∨ w = .methodLinkNest "RingBridges$Signal" 11 ⟨"RingBridges$Frame", "<init>", "()V"⟩ "RingBridges" := by simpa [rb_wN] using hw
    rcases hc with rfl | rfl
    · exact va_Nw.of rfl (hts _ lw_x1)
    · exact va_Nw.of rfl (hts _ lw_x2)
end LWS
end
section
/-! the law's two objects -/
section LWN
variable {p : Program} {l : Launch} {e : Env} {s : State} {m : MethodId} {args : Array Value} {below : List Frame} {meth : Method} {c : Code} {H : Heap} {locs : List Loc} {cells slots : Nat} {Q : State → Prop}
variable {D : va_G} {cA : Nat → ClassId} {bb : Nat} {A : Nat → Prop} {h h' : rb_H} {pc : Nat} {arr : Array Slot} {own : String} {cc : ByteArray} {nL : Nat}
set_option maxHeartbeats 4000000 in
theorem lw_callI {k idx d : Nat} {rest : List Value} (S : CallFix p m c cc nL s args lw_tbl own) (harr : arr.size = nL) (hd : decode cc pc = .ok (.invokespecial idx, 3)) (hk : k < rb_nm) (hnm : (rb_y k).name = "<init>") (hrt : rb_rt k = none) (w1 : Cond.methodLink own idx (rb_y k) ∈ lw_tbl) (w2 : Cond.instanceMethod (rb_y k) ∈ lw_tbl) (w3 : Cond.initialized (rb_y k).cls ∈ lw_tbl)
    (hy : (rb_y k).cls ≠ "java/lang/invoke/MethodHandle" ∧ (rb_y k).cls ≠ "java/lang/invoke/VarHandle" ∧ (parseMethodDescriptor (rb_y k).desc).map (fun d => d.parameters.length) = some 0) (hml : rb_ml k < 21) (hd8 : d ≤ 8)
    (hrel : rb_rel true d k [.ref 0] h none h') (hbl : ∀ i, h.1 ≤ i → h.2.2 i = rb_blank) (hK : va_K D rb_cl (rb_tys cA) s) (hE : rb_E s) (hsz : H.size = bb + h.1) (hP : va_P D rb_cl (rb_w bb cA h) H) (hD : va_D A (rb_w bb cA h)) (hS : va_S A s.heap H locs) (hA : ∀ q, s.heap.size ≤ q → A q) (hrest : (rest.map fun v => v.category).sum ≤ 8) (hcell : cells + (h'.1 - h.1) ≤ 600000 ∧ slots + (h'.2.1 - h.2.1) ≤ 7302250)
    (kk : ∀ (H1 : Heap) (locs1 : List Loc), va_P D rb_cl (rb_w bb cA h') H1 → va_S A s.heap H1 locs1 → (∀ q, q < H.size → ¬ va_A (rb_w bb cA h) H.size q → H1[q]? = H[q]?) → W p l e room_1 s m args below meth c H1 locs1 (cells + (h'.1 - h.1)) (slots + (h'.2.1 - h.2.1)) Q (F0 m (pc + 3) arr rest)) :
    W p l e room_1 s m args below meth c H locs cells slots Q (F0 m pc arr (.ref (bb + 0) :: rest)) := by
  have hM := rb_met (l := l) (D := D) (cA := cA) (b := bb) (al := true) d k [.ref 0] h none h' hrel hk hbl H.size
  have hAA : ∀ q, va_A (rb_w bb cA h) H.size q → A q := by
    rintro q (⟨i, e9, hi⟩ | h9)
    · exact hD.2 i _ hi
    · exact hA q (Nat.le_trans hS.1 h9)
  have hpre : ∀ U : State, U.heap = H → s.WarmedH U.vm → rb_Pc true D cA bb h [.ref 0] H.size (([Value.ref 0] : List Value).map (rb_rv bb)).toArray U := by
    intro U hU hW
    exact ⟨rfl, by rw [hU], fun _ => ⟨hsz, hE.moved hW⟩, by rw [hU]; exact hP, va_K.moved hW.alike hK, hD.weaken (fun _ _ _ _ => trivial)⟩
  have hgood : GoodIn lw_tbl (rb_wsk k) := by
    intro w hw
    rcases List.mem_cons.mp hw with h8 | h8
    · subst h8
      exact ⟨rb_ws_tbl (rb_code_in hk), Or.inl rfl⟩
    · exact ⟨rb_ws_tbl h8, rb_ws_good w h8⟩
  have hrun := va_runI (Ts := lw_tbl) (bytes := rb_b k) (maxL := rb_ml k) (b := bb + 0) (As := []) (rest := rest) (g := F0 m pc arr (.ref (bb + 0) :: rest)) (H := H) (locs := locs) (cells := cells) (slots := slots) (below := below) (meth := meth) (e := e) (R := room_1) S hM (cwI 0 S.2.2.2.2 hgood (by unfold rb_wsk; rw [hrt]) rfl rfl (S.2.2.2.2 _ w3) (S.2.2.2.2 _ w1) (S.2.2.2.2 _ w2) hnm hy ⟨by show d + 1 ≤ 10; omega, by show 8 + (rb_ml k + 11) + 40 * d ≤ 378; omega⟩) ⟨rb_blind, hpre⟩ rfl rfl harr rfl (lv_room hrest) hd hcell
  intro T hT X
  obtain ⟨v, st₀, t, T', Lc, g0, X', hLc, e1, e2, ⟨⟨hv, hP1, hD1⟩, hz, hkp⟩, go⟩ := hrun T hT X
  cases hv
  rw [g0] at hz hkp
  obtain ⟨t2, a1, b1⟩ := kk T'.heap (locs ++ Lc) (by rw [e1]; exact hP1)
    ⟨Nat.le_trans hS.1 (by rw [e1]; exact hz), fun q h8 h9 => by rw [e1, hkp q (Nat.lt_of_lt_of_le h8 hS.1) (fun z => h9 (hAA q z))]; exact hS.2.1 q h8 h9, fun q hq => by
      rcases List.mem_append.mp hq with h9 | h9
      · exact hS.2.2 q h9
      · exact hAA _ (hLc q h9)⟩ (fun q h8 h9 => by rw [e1]; exact hkp q h8 h9) T' rfl X'
  exact ⟨t2, go t2 a1, b1⟩
end LWN
def rb_yC : Option (Option Value × rb_H) := rb_fn true 3000 5 0 [.ref 0] rb_hC0
def rb_yR : Option (Option Value × rb_H) := rb_fn true 1000 2 43 [.ref 0] rb_hR0
def rb_hC1 : rb_H := (rb_yC.getD (none, rb_hC0)).2
def rb_hR1 : rb_H := (rb_yR.getD (none, rb_hR0)).2
theorem rb_conv {y : Option (Option Value × rb_H)} {d : Option Value × rb_H} {a b : Nat} (h : y.map (fun y => (y.1, y.2.1, y.2.2.1)) = some (none, a, b)) : y = some (none, (y.getD d).2) ∧ (y.getD d).2.1 = a ∧ (y.getD d).2.2.1 = b := by
  cases y with
  | none => cases h
  | some y =>
    have h9 := Option.some.inj h
    obtain ⟨y1, y2, y3, y4⟩ := y
    simp only [Prod.mk.injEq] at h9
    obtain ⟨rfl, rfl, rfl⟩ := h9
    exact ⟨rfl, rfl, rfl⟩
theorem rb_fn_get {al : Bool} {F d k a b : Nat} {as : List Value} {h : rb_H} {dd : Option Value × rb_H} (hm : (rb_fn al F d k as h).map (fun y => (y.1, y.2.1, y.2.2.1)) = some (none, a, b)) : rb_rel al d k as h none ((rb_fn al F d k as h).getD dd).2 ∧ ((rb_fn al F d k as h).getD dd).2.1 = a ∧ ((rb_fn al F d k as h).getD dd).2.2.1 = b := by
  obtain ⟨h1, h2, h3⟩ := rb_conv (d := dd) hm
  exact ⟨rb_fn_rel d k as h (none, ((rb_fn al F d k as h).getD dd).2) h1, h2, h3⟩
theorem rb_relC : rb_rel true 5 0 [.ref 0] rb_hC0 none rb_hC1 ∧ rb_hC1.1 = 166 ∧ rb_hC1.2.1 = 1286 := by
  unfold rb_hC1 rb_yC
  exact rb_fn_get rb_conC
theorem rb_relR : rb_rel true 2 43 [.ref 0] rb_hR0 none rb_hR1 ∧ rb_hR1.1 = 55 ∧ rb_hR1.2.1 = 1603 := by
  unfold rb_hR1 rb_yR
  exact rb_fn_get rb_conR
theorem rb_blC0 : ∀ i, rb_hC0.1 ≤ i → rb_hC0.2.2 i = rb_blank := by
  intro i hi
  have hi : 1 ≤ i := hi
  show va_up (fun _ => rb_blank) 0 _ i = rb_blank
  unfold va_up
  rw [if_neg (by omega)]
theorem rb_blR0 : ∀ i, rb_hR0.1 ≤ i → rb_hR0.2.2 i = rb_blank := by
  intro i hi
  have hi : 1 ≤ i := hi
  show va_up (fun _ => rb_blank) 0 _ i = rb_blank
  unfold va_up
  rw [if_neg (by omega)]
end
section
/-! the law whole, out of a relation between pure heaps that every call keeps -/
section LWW
variable {p : Program} {e : Env} {s : State} {m : MethodId} {below : List Frame} {meth : Method} {c : Code}
set_option maxHeartbeats 8000000 in
set_option maxRecDepth 100000 in
theorem lw_whole {N : Nat} {Good : Nat → rb_H → rb_H → Prop} (G : lw_Ok N Good) (hG0 : Good 0 rb_hC1 rb_hR1) (l : Launch) {b L : Nat} {xs : Nat → Int32} (hL : L ≤ 2048) (hN : L ≤ 4 * N) (C0 : lw_At p s m meth c b L xs) : W p l e room_1 s m #[Value.ref b] below meth c s.heap [] 0 0 (lw_Z below #[Value.ref b] s) (entryFrame m ([Value.ref b] : List Value).toArray 4) := by
  obtain ⟨hx, hb, hr, hml, hown, hts, hX, hbl, hlocks, -⟩ := C0
  obtain ⟨D, cA, hK⟩ := lw_K hts
  have hE := lw_E hts
  have S : CallFix p m c code 4 s #[Value.ref b] lw_tbl R_law := ⟨hx, hb, hml, hown, hts⟩
  obtain ⟨rC, zC, zC2⟩ := rb_relC
  obtain ⟨rR, zR, zR2⟩ := rb_relR
  obtain ⟨sC, sR, -⟩ := G.1 0 _ _ hG0
  have hl := lv_entry ([.ref b]) (n := 4) (Nat.le_of_ble_eq_true rfl)
  rw [lg_entry_eq]
  generalize (lg_sl ([.ref b]) ++ List.replicate (4 - (lg_sl ([.ref b])).length) Slot.unset).toArray = arr at hl ⊢
  have hl : lv_has arr 4 [(0, .ref b)] := hl
  have hS : va_S (fun q => s.heap.size ≤ q) s.heap s.heap [] := va_S.rf
  refine va_new (D := D) (A := fun q => s.heap.size ≤ q) (ws := []) (ci := 0) (fs := rb_df 0) (C := "RingBridges") (T := rb_T0) (N := 4) (tys := rb_tys cA) hx hb hts (fun w hw => rb_ws_tbl (rb_lay_in (ci := 0) rfl w hw)) (rb_tt 0) (rb_tt_ok (ci := 0) rfl) hown (hts _ lw_clC) (hts _ lw_in0) (hts _ lw_iC) hK (fun k q hq => (by cases hq)) ⟨fun i j p q hp => (by cases hp), fun k q hq => (by cases hq)⟩ hS (fun q h9 => h9) rfl (rb_df_ok (ci := 0) rfl) (by decide) (by decide) (lw_d rfl) (fun q1 H1 hP1 hD1 hS1 => rb_Wsz (fun hz1 => ?_))
  have hq1a : q1 < H1.size := (hP1 0 _ rfl).lt
  have hq1b : s.heap.size ≤ q1 := hD1.2 0 _ rfl
  have hq1 : q1 = s.heap.size := by omega
  subst hq1
  have hP1 : va_P D rb_cl (rb_w s.heap.size cA rb_hC0) H1 := hP1
  refine lv_dup hx hb (lw_d rfl) rfl ?_
  refine lw_callI (k := 0) (idx := 9) (d := 5) (bb := s.heap.size) (A := fun q => s.heap.size ≤ q) (rest := [.ref s.heap.size]) (h := rb_hC0) (h' := rb_hC1) S hl.1 (lw_d rfl) (by decide) rfl rfl lw_mlC lw_miC lw_iC ⟨by decide +kernel, by decide +kernel, by decide +kernel⟩ (by decide) (by decide) rC rb_blC0 hK hE (by show H1.size = s.heap.size + 1; omega) hP1 (lw_D (Nat.le_refl _)) hS1 (fun q h9 => h9) (Nat.le_of_ble_eq_true rfl) ⟨by rw [zC]; decide, by rw [zC2]; decide⟩ (fun H2 locs2 hP2 hS2 hk2 => ?_)
  rw [zC, zC2]
  refine W.widen (k := 166) (n := 1286) (by decide) (by decide) ?_
  refine lv_astore_n hx hb (lw_d rfl) rfl hl (by decide) rfl (fun arr hl => ?_)
  refine va_new (D := D) (A := fun q => s.heap.size ≤ q) (ws := rb_w s.heap.size cA rb_hC1) (ci := 7) (fs := rb_df 7) (C := "RingBridgesModel") (T := rb_T7) (N := 55) (tys := rb_tys cA) hx hb hts (fun w hw => rb_ws_tbl (rb_lay_in (ci := 7) rfl w hw)) (rb_tt 7) (rb_tt_ok (ci := 7) rfl) hown (hts _ lw_clR) (hts _ lw_in7) (hts _ lw_iR) hK hP2 (lw_D (Nat.le_refl _)) hS2 (fun q h9 => h9) rfl (rb_df_ok (ci := 7) rfl) (by decide) (by decide) (lw_d rfl) (fun q3 H3 hP3 hD3 hS3 => rb_Wsz (fun hz3 => ?_))
  have hat : (rb_w s.heap.size cA rb_hC1 ++ [(q3, (Sum.inr (7, rb_df 7) : va_E))])[166]? = some (q3, .inr (7, rb_df 7)) := by
    rw [List.getElem?_append_right (by rw [rb_w_len, zC]; exact Nat.le_refl _), rb_w_len, zC]
    rfl
  have hq3a : q3 < H3.size := (hP3 166 _ hat).lt
  have hq3b : s.heap.size ≤ q3 := hD3.2 166 _ hat
  have hq3 : q3 = s.heap.size + 166 := by
    refine Nat.le_antisymm (by omega) (Nat.not_lt.mp fun h9 => ?_)
    have hi : q3 - s.heap.size < rb_hC1.1 := by rw [zC]; omega
    have h5 : (rb_w s.heap.size cA rb_hC1 ++ [(q3, (Sum.inr (7, rb_df 7) : va_E))])[q3 - s.heap.size]? = some (s.heap.size + (q3 - s.heap.size), rb_rc s.heap.size cA (rb_hC1.2.2 (q3 - s.heap.size))) := by
      rw [List.getElem?_append_left (by rw [rb_w_len]; exact hi), rb_w_get hi]
    have := hD3.1 _ _ _ _ h5 hat (by show s.heap.size + (q3 - s.heap.size) = q3; omega)
    omega
  subst hq3
  have hPC : va_P D rb_cl (rb_w s.heap.size cA rb_hC1) H3 := by
    intro k q hq
    have hk : k < (rb_w s.heap.size cA rb_hC1).length := (List.getElem?_eq_some_iff.mp hq).1
    exact hP3 k q (by rw [List.getElem?_append_left hk]; exact hq)
  have hPR : va_P D rb_cl (rb_w (s.heap.size + 166) cA rb_hR0) H3 := by
    intro k q hq
    have hk : k < 1 := by
      have := (List.getElem?_eq_some_iff.mp hq).1
      rw [rb_w_len] at this
      exact this
    have hk0 : k = 0 := by omega
    subst hk0
    rw [← Option.some.inj hq]
    exact hP3 166 _ hat
  refine lv_dup hx hb (lw_d rfl) rfl ?_
  refine lw_callI (k := 43) (idx := 12) (d := 2) (bb := s.heap.size + 166) (A := fun q => s.heap.size ≤ q) (rest := [.ref (s.heap.size + 166)]) (h := rb_hR0) (h' := rb_hR1) S hl.1 (lw_d rfl) (by decide) rfl rfl lw_mlR lw_miR lw_iR ⟨by decide +kernel, by decide +kernel, by decide +kernel⟩ (by decide) (by decide) rR rb_blR0 hK hE (by show H3.size = s.heap.size + 166 + 1; omega) hPR (lw_D (Nat.le_add_right _ _)) hS3 (fun q h9 => h9) (Nat.le_of_ble_eq_true rfl) ⟨by rw [zR]; decide, by rw [zR2]; decide⟩ (fun H4 locs4 hP4 hS4 hk4 => ?_)
  rw [zR, zR2]
  refine W.widen (k := 221) (n := 2889) (by decide) (by decide) ?_
  have hPC := lw_apart hPC (Or.inr (by rw [zC]; exact Nat.le_refl _)) hk4
  refine lv_astore_n hx hb (lw_d rfl) rfl hl (by decide) rfl (fun arr hl => ?_)
  refine lv_iconst (v := 0) hx hb (lw_d rfl) (by decide) ?_
  refine lv_istore_n hx hb (lw_d rfl) rfl hl (by decide) rfl (fun arr hl => ?_)
  exact lw_loop G hL hN S hr hlocks hX hbl hK (L / 4 + 1) 0 rb_hC1 rb_hR1 H4 locs4 arr (by omega) (by omega) hG0 ⟨hPC, hP4, hS4, sC, sR⟩ hl
end LWW
end
section
/-! the reference: its object at place 0, its j-th array at place j + 1 -/
abbrev ra_place : Nat := 0
abbrev ra_members : Nat := 1
abbrev ra_here : Nat := 2
abbrev ra_ringOf : Nat := 3
abbrev ra_waits : Nat := 4
abbrev ra_pairs : Nat := 5
abbrev ra_lower : Nat := 6
abbrev ra_upper : Nat := 7
abbrev ra_kind : Nat := 8
abbrev ra_own : Nat := 9
abbrev ra_from : Nat := 10
abbrev ra_to : Nat := 11
abbrev ra_first : Nat := 12
abbrev ra_second : Nat := 13
abbrev ra_pathA : Nat := 14
abbrev ra_pathB : Nat := 15
abbrev ra_rings : Nat := 16
abbrev ra_link : Nat := 17
abbrev ra_opening : Nat := 18
abbrev ra_number : Nat := 19
abbrev ra_load : Nat := 20
abbrev ra_signalOf : Nat := 21
abbrev ra_at : Nat := 22
abbrev ra_quiet : Nat := 23
abbrev ra_priority : Nat := 24
abbrev ra_reserved : Nat := 25
abbrev ra_seen : Nat := 26
abbrev ra_bad : Nat := 27
abbrev ra_copied : Nat := 28
abbrev ra_addressed : Nat := 29
abbrev ra_monitorOf : Nat := 30
abbrev ra_counts : Nat := 31
abbrev ra_known : Nat := 32
abbrev ra_routeA : Nat := 33
abbrev ra_routeB : Nat := 34
abbrev ra_stateOf : Nat := 35
abbrev ra_fromOf : Nat := 36
abbrev ra_toOf : Nat := 37
abbrev ra_ownOf : Nat := 38
abbrev ra_wayA : Nat := 39
abbrev ra_wayB : Nat := 40
abbrev ra_openings : Nat := 41
abbrev ra_firstOf : Nat := 42
abbrev ra_sentOf : Nat := 43
abbrev ra_offeredOf : Nat := 44
abbrev ra_offered : Nat := 45
abbrev ra_waiting : Nat := 46
abbrev ra_timers : Nat := 47
abbrev ra_triesOf : Nat := 48
abbrev ra_expectedOf : Nat := 49
abbrev ra_inboxOf : Nat := 50
abbrev ra_inbox : Nat := 51
abbrev ra_complains : Nat := 52
abbrev ra_putsOff : Nat := 53
def rr_cell (j : Nat) (f : Nat → Int32) : va_E := match j with
  | 0 => .inl (0, 15, .inl f)
  | 1 => .inl (0, 3, .inl f)
  | 2 => .inl (1, 15, .inl f)
  | 3 => .inl (0, 15, .inl f)
  | 4 => .inl (0, 15, .inl f)
  | 5 => .inl (0, 15, .inl f)
  | 6 => .inl (0, 120, .inl f)
  | 7 => .inl (0, 120, .inl f)
  | 8 => .inl (0, 64, .inl f)
  | 9 => .inl (0, 64, .inl f)
  | 10 => .inl (0, 64, .inl f)
  | 11 => .inl (0, 64, .inl f)
  | 12 => .inl (0, 64, .inl f)
  | 13 => .inl (0, 64, .inl f)
  | 14 => .inl (0, 64, .inl f)
  | 15 => .inl (0, 64, .inl f)
  | 16 => .inl (0, 64, .inl f)
  | 17 => .inl (0, 64, .inl f)
  | 18 => .inl (0, 64, .inl f)
  | 19 => .inl (0, 64, .inl f)
  | 20 => .inl (0, 64, .inl f)
  | 21 => .inl (0, 3, .inl f)
  | 22 => .inl (0, 3, .inl f)
  | 23 => .inl (0, 3, .inl f)
  | 24 => .inl (0, 3, .inl f)
  | 25 => .inl (0, 3, .inl f)
  | 26 => .inl (1, 3, .inl f)
  | 27 => .inl (1, 3, .inl f)
  | 28 => .inl (1, 3, .inl f)
  | 29 => .inl (0, 3, .inl f)
  | 30 => .inl (0, 3, .inl f)
  | 31 => .inl (0, 9, .inl f)
  | 32 => .inl (1, 81, .inl f)
  | 33 => .inl (0, 81, .inl f)
  | 34 => .inl (0, 81, .inl f)
  | 35 => .inl (0, 4, .inl f)
  | 36 => .inl (0, 4, .inl f)
  | 37 => .inl (0, 4, .inl f)
  | 38 => .inl (0, 4, .inl f)
  | 39 => .inl (0, 4, .inl f)
  | 40 => .inl (0, 4, .inl f)
  | 41 => .inl (0, 4, .inl f)
  | 42 => .inl (0, 4, .inl f)
  | 43 => .inl (0, 4, .inl f)
  | 44 => .inl (0, 4, .inl f)
  | 45 => .inl (0, 32, .inl f)
  | 46 => .inl (1, 4, .inl f)
  | 47 => .inl (0, 4, .inl f)
  | 48 => .inl (0, 4, .inl f)
  | 49 => .inl (0, 4, .inl f)
  | 50 => .inl (0, 4, .inl f)
  | 51 => .inl (0, 16, .inl f)
  | 52 => .inl (1, 4, .inl f)
  | 53 => .inl (1, 4, .inl f)
  | _ => rb_blank
def rr_obj (t : Int32) : va_E := .inr (7, [.ref 1, .ref 2, .ref 3, .ref 4, .ref 5, .ref 6, .ref 7, .ref 8, .ref 9, .ref 10, .ref 11, .ref 12, .ref 13, .ref 14, .ref 15, .ref 16, .ref 17, .ref 18, .ref 19, .ref 20, .ref 21, .ref 22, .ref 23, .ref 24, .ref 25, .ref 26, .ref 27, .ref 28, .ref 29, .ref 30, .ref 31, .ref 32, .ref 33, .ref 34, .ref 35, .ref 36, .ref 37, .ref 38, .ref 39, .ref 40, .ref 41, .ref 42, .ref 43, .ref 44, .ref 45, .ref 46, .ref 47, .ref 48, .ref 49, .ref 50, .ref 51, .ref 52, .ref 53, .ref 54, .int t])
def rr_enc (A : Nat → Nat → Int32) (t : Int32) (i : Nat) : va_E := match i with
  | 0 => rr_obj t
  | j + 1 => rr_cell j (A j)
def rr_h (A : Nat → Nat → Int32) (t : Int32) : rb_H := (55, 1603, rr_enc A t)
def rr_up (A : Nat → Nat → Int32) (j i : Nat) (v : Int32) : Nat → Nat → Int32 := va_up A j (upd (A j) i v)
theorem rr_up_same (A : Nat → Nat → Int32) (j i : Nat) (v : Int32) : rr_up A j i v j i = v := by simp [rr_up, va_up, upd]
theorem rr_up_at (A : Nat → Nat → Int32) (j i : Nat) (v : Int32) (j2 i2 : Nat) : rr_up A j i v j2 i2 = if j2 = j ∧ i2 = i then v else A j2 i2 := by
  unfold rr_up va_up upd
  by_cases h : j2 = j
  · subst h
    by_cases h2 : i2 = i <;> simp [h2]
  · simp [h]
theorem rr_fold (A : Nat → Nat → Int32) (t : Int32) (j : Nat) (g : Nat → Int32) : va_up (rr_enc A t) (j + 1) (rr_cell j g) = rr_enc (va_up A j g) t := by
  funext i
  cases i with
  | zero => rfl
  | succ i =>
    by_cases h : i = j
    · subst h
      simp [va_up, rr_enc]
    · simp [va_up, rr_enc, h]
section RRW
variable {d k pc nx a b : Nat} {ls : List Value} {Q : Option Value → rb_H → Prop} {kc : Int32} {A : Nat → Nat → Int32} {t : Int32}
theorem rr_iald {x : Int32} {j n : Nat} {r : List Value} (hi : rb_ins k pc = some (.iaload, nx, a, b, kc)) (hc : rr_cell j (A j) = .inl (0, n, .inl (A j))) (hin : vp_in x n) (kk : rb_wp d k nx ls (.int (A j x.toNatClampNeg) :: r) (rr_h A t) Q) : rb_wp d k pc ls (.int x :: .ref (j + 1) :: r) (rr_h A t) Q := rw_iald (h := rr_h A t) hi hc hin kk
theorem rr_bald {x : Int32} {j n : Nat} {r : List Value} (hi : rb_ins k pc = some (.baload, nx, a, b, kc)) (hc : rr_cell j (A j) = .inl (1, n, .inl (A j))) (hin : vp_in x n) (kk : rb_wp d k nx ls (.int (A j x.toNatClampNeg) :: r) (rr_h A t) Q) : rb_wp d k pc ls (.int x :: .ref (j + 1) :: r) (rr_h A t) Q := rw_bald (h := rr_h A t) hi hc hin kk
theorem rr_iast {x v : Int32} {j n : Nat} {r : List Value} (hi : rb_ins k pc = some (.iastore, nx, a, b, kc)) (hc : ∀ g, rr_cell j g = .inl (0, n, .inl g)) (hin : vp_in x n) (kk : rb_wp d k nx ls r (rr_h (rr_up A j x.toNatClampNeg v) t) Q) : rb_wp d k pc ls (.int v :: .int x :: .ref (j + 1) :: r) (rr_h A t) Q := by
  refine rw_iast (h := rr_h A t) (n := n) (f := A j) hi (hc (A j)) hin ?_
  rw [show ((rr_h A t).1, (rr_h A t).2.1, va_up (rr_h A t).2.2 (j + 1) (.inl (0, n, .inl (upd (A j) x.toNatClampNeg v)))) = rr_h (rr_up A j x.toNatClampNeg v) t by rw [← hc]; show (55, 1603, va_up (rr_enc A t) (j + 1) (rr_cell j (upd (A j) x.toNatClampNeg v))) = _; rw [rr_fold]; rfl]
  exact kk
theorem rr_bast {x v : Int32} {j n : Nat} {r : List Value} (hi : rb_ins k pc = some (.bastore, nx, a, b, kc)) (hv : rb_fit .boolean (.int v) = true) (hc : ∀ g, rr_cell j g = .inl (1, n, .inl g)) (hin : vp_in x n) (kk : rb_wp d k nx ls r (rr_h (rr_up A j x.toNatClampNeg v) t) Q) : rb_wp d k pc ls (.int v :: .int x :: .ref (j + 1) :: r) (rr_h A t) Q := by
  refine rw_bast (h := rr_h A t) (n := n) (f := A j) hi hv (hc (A j)) hin ?_
  rw [show ((rr_h A t).1, (rr_h A t).2.1, va_up (rr_h A t).2.2 (j + 1) (.inl (1, n, .inl (upd (A j) x.toNatClampNeg v)))) = rr_h (rr_up A j x.toNatClampNeg v) t by rw [← hc]; show (55, 1603, va_up (rr_enc A t) (j + 1) (rr_cell j (upd (A j) x.toNatClampNeg v))) = _; rw [rr_fold]; rfl]
  exact kk
end RRW
section RRA
variable {d : Nat} {h : rb_H} {Q : Option Value → rb_H → Prop} {A : Nat → Nat → Int32} {t : Int32}
def rr_addr (x : Int32) : Int32 := if x < 9 then x + 1 else 10 + (x - 9) / 2
theorem rr_addressOf {x : Int32} (hq : Q (some (.int (rr_addr x))) h) : rb_cw (d + 1) 44 [.int x] h Q := by
  refine rw_ent rfl rfl rfl ?_
  repeat refine rw_step rfl rfl ?_
  refine rw_icmp rfl (fun hc => ?_) (fun hc => ?_)
  · repeat refine rw_step rfl rfl ?_
    refine rw_ret rfl rfl rfl ?_
    have hc : ¬ x < 9 := Int32.not_lt.mpr (of_decide_eq_true hc)
    rw [rr_addr, if_neg hc] at hq
    exact hq
  · repeat refine rw_step rfl rfl ?_
    refine rw_ret rfl rfl rfl ?_
    have hc : x < 9 := Int32.not_le.mp (of_decide_eq_false hc)
    rw [rr_addr, if_pos hc] at hq
    exact hq
theorem rr_isRing {x : Int32} (hq : Q (some (.int (if 0 ≤ x ∧ x ≤ 2 then 1 else 0))) h) : rb_cw (d + 1) 45 [.int x] h Q := by
  refine rw_ent rfl rfl rfl ?_
  repeat refine rw_step rfl rfl ?_
  refine rw_if rfl (fun hc => ?_) (fun hc => ?_)
  · repeat refine rw_step rfl rfl ?_
    refine rw_ret rfl rfl rfl ?_
    have hc : x < 0 := of_decide_eq_true hc
    rw [if_neg (fun h9 => absurd hc (Int32.not_lt.mpr h9.1))] at hq
    exact hq
  · repeat refine rw_step rfl rfl ?_
    have hc : 0 ≤ x := Int32.not_lt.mp (of_decide_eq_false hc)
    refine rw_icmp rfl (fun hc2 => ?_) (fun hc2 => ?_)
    · repeat refine rw_step rfl rfl ?_
      refine rw_ret rfl rfl rfl ?_
      have hc2 : 2 < x := of_decide_eq_true hc2
      rw [if_neg (fun h9 => absurd hc2 (Int32.not_lt.mpr h9.2))] at hq
      exact hq
    · repeat refine rw_step rfl rfl ?_
      refine rw_ret rfl rfl rfl ?_
      have hc2 : x ≤ 2 := Int32.not_lt.mp (of_decide_eq_false hc2)
      rw [if_pos ⟨hc, hc2⟩] at hq
      exact hq
end RRA
end
section
/-! the reference: leaves -/
section RRL
variable {d k pc nx a b : Nat} {ls : List Value} {Q : Option Value → rb_H → Prop} {kc : Int32} {A : Nat → Nat → Int32} {t : Int32}
theorem rr_clamp {i n : Nat} (hin : i < n) (hn : Nat.blt n 1000 = true) : (nI i).toNatClampNeg = i := nI_clamp (by have := rb_blt hn; omega)
theorem rr_vin {i n : Nat} (hin : i < n) (hn : Nat.blt n 1000 = true) : vp_in (nI i) n := vp_in_nI hin (by have := rb_blt hn; omega)
theorem rr_ld {x : Int32} {i j n : Nat} {r : List Value} (hi : rb_ins k pc = some (.iaload, nx, a, b, kc)) (hc : rr_cell j (A j) = .inl (0, n, .inl (A j))) (hx : x = nI i) (hin : i < n) (hn : Nat.blt n 1000 = true) (kk : rb_wp d k nx ls (.int (A j i) :: r) (rr_h A t) Q) : rb_wp d k pc ls (.int x :: .ref (j + 1) :: r) (rr_h A t) Q := by
  subst hx
  exact rr_iald hi hc (rr_vin hin hn) (by rw [rr_clamp hin hn]; exact kk)
theorem rr_ldz {x : Int32} {i j n : Nat} {r : List Value} (hi : rb_ins k pc = some (.baload, nx, a, b, kc)) (hc : rr_cell j (A j) = .inl (1, n, .inl (A j))) (hx : x = nI i) (hin : i < n) (hn : Nat.blt n 1000 = true) (kk : rb_wp d k nx ls (.int (A j i) :: r) (rr_h A t) Q) : rb_wp d k pc ls (.int x :: .ref (j + 1) :: r) (rr_h A t) Q := by
  subst hx
  exact rr_bald hi hc (rr_vin hin hn) (by rw [rr_clamp hin hn]; exact kk)
theorem rr_st {x v : Int32} {i j n : Nat} {r : List Value} (hi : rb_ins k pc = some (.iastore, nx, a, b, kc)) (hc : ∀ g, rr_cell j g = .inl (0, n, .inl g)) (hx : x = nI i) (hin : i < n) (hn : Nat.blt n 1000 = true) (kk : rb_wp d k nx ls r (rr_h (rr_up A j i v) t) Q) : rb_wp d k pc ls (.int v :: .int x :: .ref (j + 1) :: r) (rr_h A t) Q := by
  subst hx
  exact rr_iast hi hc (rr_vin hin hn) (by rw [rr_clamp hin hn]; exact kk)
theorem rr_stz {x v : Int32} {i j n : Nat} {r : List Value} (hi : rb_ins k pc = some (.bastore, nx, a, b, kc)) (hv : rb_fit .boolean (.int v) = true) (hc : ∀ g, rr_cell j g = .inl (1, n, .inl g)) (hx : x = nI i) (hin : i < n) (hn : Nat.blt n 1000 = true) (kk : rb_wp d k nx ls r (rr_h (rr_up A j i v) t) Q) : rb_wp d k pc ls (.int v :: .int x :: .ref (j + 1) :: r) (rr_h A t) Q := by
  subst hx
  exact rr_bast hi hv hc (rr_vin hin hn) (by rw [rr_clamp hin hn]; exact kk)
end RRL
section RRB
variable {d : Nat} {h : rb_H} {Q : Option Value → rb_H → Prop} {A : Nat → Nat → Int32} {t : Int32}
def rr_copy (A : Nat → Nat → Int32) (x y : Nat) : Nat → Nat → Int32 := fun j i => if (8 ≤ j ∧ j ≤ 20) ∧ i = y then A j x else A j i
set_option maxHeartbeats 2000000 in
theorem rr_copyFrame {x y : Nat} (hx : x < 64) (hy : y < 64) (hq : Q none (rr_h (rr_copy A x y) t)) : rb_cw (d + 1) 53 [.ref 0, .int (nI x), .int (nI y)] (rr_h A t) Q := by
  refine rw_ent rfl rfl rfl ?_
  repeat (first
      | refine rw_step rfl rfl ?_
      | refine rr_ld rfl rfl rfl (by omega) rfl ?_
      | refine rr_ldz rfl rfl rfl (by omega) rfl ?_
      | refine rr_st rfl (fun _ => rfl) rfl (by omega) rfl ?_
      | refine rr_stz rfl rfl (fun _ => rfl) rfl (by omega) rfl ?_)
  refine rw_ret rfl rfl rfl ?_
  refine cast (congrArg (fun B => Q none (rr_h B t)) ?_) hq
  funext j i
  simp only [rr_up_at, rr_copy]
  by_cases hi : i = y
  · subst hi
    by_cases hj : 8 ≤ j ∧ j ≤ 20
    · have : j = 8 ∨ j = 9 ∨ j = 10 ∨ j = 11 ∨ j = 12 ∨ j = 13 ∨ j = 14 ∨ j = 15 ∨ j = 16 ∨ j = 17 ∨ j = 18 ∨ j = 19 ∨ j = 20 := by omega
      rcases this with rfl | rfl | rfl | rfl | rfl | rfl | rfl | rfl | rfl | rfl | rfl | rfl | rfl <;> simp
    · have n8 : ¬ j = 8 := by omega
      have n9 : ¬ j = 9 := by omega
      have n10 : ¬ j = 10 := by omega
      have n11 : ¬ j = 11 := by omega
      have n12 : ¬ j = 12 := by omega
      have n13 : ¬ j = 13 := by omega
      have n14 : ¬ j = 14 := by omega
      have n15 : ¬ j = 15 := by omega
      have n16 : ¬ j = 16 := by omega
      have n17 : ¬ j = 17 := by omega
      have n18 : ¬ j = 18 := by omega
      have n19 : ¬ j = 19 := by omega
      have n20 : ¬ j = 20 := by omega
      simp [hj, n8, n9, n10, n11, n12, n13, n14, n15, n16, n17, n18, n19, n20]
  · simp [hi]
def rr_make (A : Nat → Nat → Int32) (k p a b w1 w2 : Int32) : Nat → Nat → Int32 := (rr_up (rr_up (rr_up (rr_up (rr_up (rr_up (rr_up (rr_up (rr_up (rr_up (rr_up A 8 63 k) 9 63 p) 10 63 a) 11 63 b) 12 63 w1) 13 63 w2) 14 63 (-1)) 15 63 (-1)) 16 63 0) 17 63 0) 18 63 0)
theorem rr_makeFrame {k p a b w1 w2 : Int32} (hq : Q none (rr_h (rr_make A k p a b w1 w2) t)) : rb_cw (d + 1) 55 [.ref 0, .int k, .int p, .int a, .int b, .int w1, .int w2] (rr_h A t) Q := by
  refine rw_ent rfl rfl rfl ?_
  repeat (first
    | refine rr_st (i := 63) rfl (fun _ => rfl) rfl (by omega) rfl ?_
    | refine rw_step rfl rfl ?_)
  refine rw_ret rfl rfl rfl ?_
  exact hq
def rr_tok (A : Nat → Nat → Int32) (r : Nat) (p v : Int32) : Nat → Nat → Int32 := rr_up (rr_up (rr_up (rr_up (rr_up (rr_up A 21 r 1) 24 r p) 25 r v) 26 r 0) 27 r 0) 28 r 0
theorem rr_setToken {r : Nat} {p v : Int32} (hr : r < 3) (hq : Q none (rr_h (rr_tok A r p v) t)) : rb_cw (d + 1) 58 [.ref 0, .int (nI r), .int p, .int v] (rr_h A t) Q := by
  refine rw_ent rfl rfl rfl ?_
  repeat (first
      | refine rw_step rfl rfl ?_
      | refine rr_ld rfl rfl rfl (by omega) rfl ?_
      | refine rr_ldz rfl rfl rfl (by omega) rfl ?_
      | refine rr_st rfl (fun _ => rfl) rfl (by omega) rfl ?_
      | refine rr_stz rfl rfl (fun _ => rfl) rfl (by omega) rfl ?_)
  refine rw_ret rfl rfl rfl ?_
  exact hq
def rr_come (A : Nat → Nat → Int32) (n r : Nat) : Nat → Nat → Int32 := rr_up (rr_up (rr_up (rr_up (rr_up (rr_up A 2 n 1) 3 n (nI r)) 0 n (A 1 r)) 1 r (A 1 r + 1)) 4 n 0) 5 n 0
theorem rr_comeM {n r : Nat} (hn : n < 15) (hr : r < 3) (hq : Q none (rr_h (rr_come A n r) t)) : rb_cw (d + 1) 51 [.ref 0, .int (nI n), .int (nI r)] (rr_h A t) Q := by
  refine rw_ent rfl rfl rfl ?_
  repeat (first
      | refine rw_step rfl rfl ?_
      | refine rr_ld rfl rfl rfl (by omega) rfl ?_
      | refine rr_ldz rfl rfl rfl (by omega) rfl ?_
      | refine rr_st rfl (fun _ => rfl) rfl (by omega) rfl ?_
      | refine rr_stz rfl rfl (fun _ => rfl) rfl (by omega) rfl ?_)
  refine rw_ret rfl rfl rfl ?_
  exact hq
theorem rr_isConnection {x : Int32} (hq : Q (some (.int (if 0 ≤ x ∧ x ≤ 3 then 1 else 0))) h) : rb_cw (d + 1) 78 [.int x] h Q := by
  refine rw_ent rfl rfl rfl ?_
  repeat refine rw_step rfl rfl ?_
  refine rw_if rfl (fun hc => ?_) (fun hc => ?_)
  · repeat refine rw_step rfl rfl ?_
    refine rw_ret rfl rfl rfl ?_
    have hc : x < 0 := of_decide_eq_true hc
    rw [if_neg (fun h9 => absurd hc (Int32.not_lt.mpr h9.1))] at hq
    exact hq
  · repeat refine rw_step rfl rfl ?_
    have hc : 0 ≤ x := Int32.not_lt.mp (of_decide_eq_false hc)
    refine rw_icmp rfl (fun hc2 => ?_) (fun hc2 => ?_)
    · repeat refine rw_step rfl rfl ?_
      refine rw_ret rfl rfl rfl ?_
      have hc2 : 3 < x := of_decide_eq_true hc2
      rw [if_neg (fun h9 => absurd hc2 (Int32.not_lt.mpr h9.2))] at hq
      exact hq
    · repeat refine rw_step rfl rfl ?_
      refine rw_ret rfl rfl rfl ?_
      have hc2 : x ≤ 3 := Int32.not_lt.mp (of_decide_eq_false hc2)
      rw [if_pos ⟨hc, hc2⟩] at hq
      exact hq
theorem rr_isAddress {x : Int32} (hq : Q (some (.int (if 1 ≤ x ∧ x ≤ 9 then 1 else 0))) h) : rb_cw (d + 1) 46 [.int x] h Q := by
  refine rw_ent rfl rfl rfl ?_
  repeat refine rw_step rfl rfl ?_
  refine rw_icmp rfl (fun hc => ?_) (fun hc => ?_)
  · repeat refine rw_step rfl rfl ?_
    refine rw_ret rfl rfl rfl ?_
    have hc : x < 1 := of_decide_eq_true hc
    rw [if_neg (fun h9 => absurd hc (Int32.not_lt.mpr h9.1))] at hq
    exact hq
  · repeat refine rw_step rfl rfl ?_
    have hc : 1 ≤ x := Int32.not_lt.mp (of_decide_eq_false hc)
    refine rw_icmp rfl (fun hc2 => ?_) (fun hc2 => ?_)
    · repeat refine rw_step rfl rfl ?_
      refine rw_ret rfl rfl rfl ?_
      have hc2 : 9 < x := of_decide_eq_true hc2
      rw [if_neg (fun h9 => absurd hc2 (Int32.not_lt.mpr h9.2))] at hq
      exact hq
    · repeat refine rw_step rfl rfl ?_
      refine rw_ret rfl rfl rfl ?_
      have hc2 : x ≤ 9 := Int32.not_lt.mp (of_decide_eq_false hc2)
      rw [if_pos ⟨hc, hc2⟩] at hq
      exact hq
end RRB
end
section
/-! the reference: wish, queueNew, the searches -/
theorem rr_mul (a b : Nat) : nI a * nI b = nI (a * b) := by
  unfold nI
  exact (Int32.ofNat_mul a b).symm
theorem rr_c4 (n : Nat) : (4 : Int32) * nI n = nI (4 * n) := rr_mul 4 n
section RRC
variable {d : Nat} {h : rb_H} {Q : Option Value → rb_H → Prop} {A : Nat → Nat → Int32} {t : Int32}
def rr_wish (A : Nat → Nat → Int32) (n : Nat) : Int32 := if A 4 n = 0 then -1 else A 9 (4 * n)
theorem rr_wishM {n : Nat} (hn : n < 15) (hq : Q (some (.int (rr_wish A n))) (rr_h A t)) : rb_cw (d + 1) 56 [.ref 0, .int (nI n)] (rr_h A t) Q := by
  refine rw_ent rfl rfl rfl ?_
  repeat (first | refine rw_step rfl rfl ?_ | refine rr_ld rfl rfl rfl (by omega) rfl ?_)
  refine rw_if rfl (fun hc => ?_) (fun hc => ?_)
  · repeat refine rw_step rfl rfl ?_
    refine rr_ld (i := 4 * n) rfl rfl (rr_c4 n) (by omega) rfl ?_
    refine rw_ret rfl rfl rfl ?_
    have hc : ¬ A 4 n = 0 := by simpa [rb_cmp] using hc
    rw [rr_wish, if_neg hc] at hq
    exact hq
  · repeat refine rw_step rfl rfl ?_
    refine rw_ret rfl rfl rfl ?_
    have hc : A 4 n = 0 := by simpa [rb_cmp] using hc
    rw [rr_wish, if_pos hc] at hq
    exact hq
def rr_queue (A : Nat → Nat → Int32) (n w : Nat) : Nat → Nat → Int32 := if w = 4 then A else rr_up (rr_copy A 63 (4 * n + w)) 4 n (nI (w + 1))
theorem rr_queueNew {n w : Nat} (hn : n < 15) (hw : A 4 n = nI w) (hw4 : w ≤ 4) (hq : Q none (rr_h (rr_queue A n w) t)) : rb_cw (d + 2) 54 [.ref 0, .int (nI n)] (rr_h A t) Q := by
  refine rw_ent rfl rfl rfl ?_
  repeat (first | refine rw_step rfl rfl ?_ | refine rr_ld rfl rfl rfl (by omega) rfl ?_)
  refine rw_icmp rfl (fun hc => ?_) (fun hc => ?_)
  · have hc : ¬ A 4 n = 4 := by simpa [rb_cmp] using hc
    have hne : ¬ w = 4 := fun h9 => hc (by rw [hw, h9]; rfl)
    rw [rr_queue, if_neg hne] at hq
    repeat (first | refine rw_step rfl rfl ?_ | refine rr_ld rfl rfl rfl (by omega) rfl ?_)
    refine rw_call rfl rfl rfl ?_
    have e1 : (4 : Int32) * nI n + A 4 n = nI (4 * n + w) := by rw [rr_c4, hw, nI_add]
    show rb_cw (d + 1) 53 [.ref 0, .int (nI 63), .int ((4 : Int32) * nI n + A 4 n)] (rr_h A t) _
    rw [e1]
    refine rr_copyFrame (by omega) (by omega) ?_
    repeat (first | refine rw_step rfl rfl ?_ | refine rr_ld rfl rfl rfl (by omega) rfl ?_)
    refine rr_st rfl (fun _ => rfl) rfl (by omega) rfl ?_
    refine rw_ret rfl rfl rfl ?_
    have e2 : rr_copy A 63 (4 * n + w) 4 n + 1 = nI (w + 1) := by
      show (if (8 ≤ 4 ∧ 4 ≤ 20) ∧ n = 4 * n + w then _ else A 4 n) + 1 = _
      rw [if_neg (by omega), hw, nI_1]
    dsimp only
    rw [e2]
    exact hq
  · have hc : A 4 n = 4 := by simpa [rb_cmp] using hc
    have he : w = 4 := (nI_eq (by omega) (by omega)).mp (hw.symm.trans hc)
    rw [rr_queue, if_pos he] at hq
    refine rw_ret rfl rfl rfl ?_
    exact hq
def rr_at (A : Nat → Nat → Int32) (r p : Int32) : Nat → Int32
  | 0 => -1
  | n + 1 => if (¬ A 2 n = 0 ∧ A 3 n = r) ∧ A 0 n = p then nI n else rr_at A r p n
theorem rr_at_step {r p : Int32} {n : Nat} {y : Int32} (h1 : ((¬ A 2 n = 0 ∧ A 3 n = r) ∧ A 0 n = p) → y = nI n) (h2 : ¬ ((¬ A 2 n = 0 ∧ A 3 n = r) ∧ A 0 n = p) → y = rr_at A r p n) : y = rr_at A r p (n + 1) := by
  rw [rr_at]
  split
  · exact h1 (by assumption)
  · exact h2 (by assumption)
theorem rr_nodeAt_loop {r p : Int32} (hq : Q (some (.int (rr_at A r p 15))) (rr_h A t)) : ∀ (f n : Nat) (x y : Int32), n + f = 15 → x = nI n → y = rr_at A r p n → rb_wp d 48 5 [.ref 0, .int r, .int p, .int y, .int x] [] (rr_h A t) Q := by
  intro f
  induction f with
  | zero =>
    intro n x y hf hx hy
    have hn : n = 15 := by omega
    subst hn hx hy
    refine rw_step rfl rfl ?_
    refine rw_step rfl rfl ?_
    refine rw_icmp rfl (fun hc => ?_) (fun hc => ?_)
    · repeat refine rw_step rfl rfl ?_
      refine rw_ret rfl rfl rfl ?_
      exact hq
    · exact absurd hc (by decide)
  | succ f ih =>
    intro n x y hf hx hy
    subst hx
    have hn : n < 15 := by omega
    refine rw_step rfl rfl ?_
    refine rw_step rfl rfl ?_
    have hlt : ¬ (15 : Int32) ≤ nI n := nI_ge (a := n) (b := 15) hn (by omega)
    refine rw_icmp rfl (fun hc => absurd (of_decide_eq_true hc) hlt) (fun _ => ?_)
    repeat (first | refine rw_step rfl rfl ?_ | refine rr_ldz rfl rfl rfl (by omega) rfl ?_)
    have nxt : ∀ z : Int32, z = rr_at A r p (n + 1) → rb_wp d 48 50 [.ref 0, .int r, .int p, .int y, .int (nI n)] [.int z] (rr_h A t) Q := by
      intro z hz
      refine rw_step rfl rfl ?_
      refine rw_step rfl rfl ?_
      refine rw_step rfl rfl ?_
      exact ih (n + 1) (nI n + 1) z (by omega) (nI_1 n) hz
    refine rw_if rfl (fun hc => ?_) (fun hc => ?_)
    · have hc : A 2 n = 0 := by simpa [rb_cmp] using hc
      refine rw_step rfl rfl ?_
      exact nxt y (rr_at_step (fun h9 => absurd hc h9.1.1) (fun _ => hy))
    have hc : ¬ A 2 n = 0 := by simpa [rb_cmp] using hc
    repeat (first | refine rw_step rfl rfl ?_ | refine rr_ld rfl rfl rfl (by omega) rfl ?_)
    refine rw_icmp rfl (fun hc2 => ?_) (fun hc2 => ?_)
    · have hc2 : ¬ A 3 n = r := by simpa [rb_cmp] using hc2
      refine rw_step rfl rfl ?_
      exact nxt y (rr_at_step (fun h9 => absurd h9.1.2 hc2) (fun _ => hy))
    have hc2 : A 3 n = r := by simpa [rb_cmp] using hc2
    repeat (first | refine rw_step rfl rfl ?_ | refine rr_ld rfl rfl rfl (by omega) rfl ?_)
    refine rw_icmp rfl (fun hc3 => ?_) (fun hc3 => ?_)
    · have hc3 : ¬ A 0 n = p := by simpa [rb_cmp] using hc3
      refine rw_step rfl rfl ?_
      exact nxt y (rr_at_step (fun h9 => absurd h9.2 hc3) (fun _ => hy))
    have hc3 : A 0 n = p := by simpa [rb_cmp] using hc3
    refine rw_step rfl rfl ?_
    refine rw_step rfl rfl ?_
    exact nxt (nI n) (rr_at_step (fun _ => rfl) (fun h9 => absurd ⟨⟨hc, hc2⟩, hc3⟩ h9))
theorem rr_nodeAt {r p : Int32} (hq : Q (some (.int (rr_at A r p 15))) (rr_h A t)) : rb_cw (d + 1) 48 [.ref 0, .int r, .int p] (rr_h A t) Q := by
  refine rw_ent rfl rfl rfl ?_
  refine rw_step rfl rfl ?_
  refine rw_step rfl rfl ?_
  refine rw_step rfl rfl ?_
  refine rw_step rfl rfl ?_
  exact rr_nodeAt_loop hq 15 0 0 (-1) rfl rfl rfl
end RRC
end
section
/-! the reference: nodeWith, behind, purge, watch -/
def rr_rem (x y : Int32) : Int32 := x - x / y * y
section RRD
variable {d k pc nx a b : Nat} {ls : List Value} {h : rb_H} {Q : Option Value → rb_H → Prop} {A : Nat → Nat → Int32} {t kc : Int32}
theorem rw_rem {x y : Int32} {r : List Value} (hi : rb_ins k pc = some (.irem, nx, a, b, kc)) (hy : ¬ y = 0) (kk : rb_wp d k nx ls (.int (rr_rem x y) :: r) h Q) : rb_wp d k pc ls (.int y :: .int x :: r) h Q := by
  refine rw_step hi ?_ kk
  have hd : decide (y = 0) = false := decide_eq_false hy
  simp only [rb_step, rb_div, hd]
  rfl
def rr_with (A : Nat → Nat → Int32) (r x : Int32) : Nat → Int32
  | 0 => -1
  | n + 1 => if (¬ A 2 n = 0 ∧ A 3 n = r) ∧ rr_addr (nI n) = x then nI n else rr_with A r x n
theorem rr_with_step {r x : Int32} {n : Nat} {y : Int32} (h1 : ((¬ A 2 n = 0 ∧ A 3 n = r) ∧ rr_addr (nI n) = x) → y = nI n) (h2 : ¬ ((¬ A 2 n = 0 ∧ A 3 n = r) ∧ rr_addr (nI n) = x) → y = rr_with A r x n) : y = rr_with A r x (n + 1) := by
  rw [rr_with]
  split
  · exact h1 (by assumption)
  · exact h2 (by assumption)
theorem rr_nodeWith_loop {r p : Int32} (hq : Q (some (.int (rr_with A r p 15))) (rr_h A t)) : ∀ (f n : Nat) (x y : Int32), n + f = 15 → x = nI n → y = rr_with A r p n → rb_wp (d + 1) 49 5 [.ref 0, .int r, .int p, .int y, .int x] [] (rr_h A t) Q := by
  intro f
  induction f with
  | zero =>
    intro n x y hf hx hy
    have hn : n = 15 := by omega
    subst hn hx hy
    refine rw_step rfl rfl ?_
    refine rw_step rfl rfl ?_
    refine rw_icmp rfl (fun hc => ?_) (fun hc => ?_)
    · repeat refine rw_step rfl rfl ?_
      refine rw_ret rfl rfl rfl ?_
      exact hq
    · exact absurd hc (by decide)
  | succ f ih =>
    intro n x y hf hx hy
    subst hx
    have hn : n < 15 := by omega
    refine rw_step rfl rfl ?_
    refine rw_step rfl rfl ?_
    have hlt : ¬ (15 : Int32) ≤ nI n := nI_ge (a := n) (b := 15) hn (by omega)
    refine rw_icmp rfl (fun hc => absurd (of_decide_eq_true hc) hlt) (fun _ => ?_)
    repeat (first | refine rw_step rfl rfl ?_ | refine rr_ldz rfl rfl rfl (by omega) rfl ?_)
    have nxt : ∀ z : Int32, z = rr_with A r p (n + 1) → rb_wp (d + 1) 49 48 [.ref 0, .int r, .int p, .int y, .int (nI n)] [.int z] (rr_h A t) Q := by
      intro z hz
      refine rw_step rfl rfl ?_
      refine rw_step rfl rfl ?_
      refine rw_step rfl rfl ?_
      exact ih (n + 1) (nI n + 1) z (by omega) (nI_1 n) hz
    refine rw_if rfl (fun hc => ?_) (fun hc => ?_)
    · have hc : A 2 n = 0 := by simpa [rb_cmp] using hc
      refine rw_step rfl rfl ?_
      exact nxt y (rr_with_step (fun h9 => absurd hc h9.1.1) (fun _ => hy))
    have hc : ¬ A 2 n = 0 := by simpa [rb_cmp] using hc
    repeat (first | refine rw_step rfl rfl ?_ | refine rr_ld rfl rfl rfl (by omega) rfl ?_)
    refine rw_icmp rfl (fun hc2 => ?_) (fun hc2 => ?_)
    · have hc2 : ¬ A 3 n = r := by simpa [rb_cmp] using hc2
      refine rw_step rfl rfl ?_
      exact nxt y (rr_with_step (fun h9 => absurd h9.1.2 hc2) (fun _ => hy))
    have hc2 : A 3 n = r := by simpa [rb_cmp] using hc2
    refine rw_step rfl rfl ?_
    refine rw_call rfl rfl rfl ?_
    refine rr_addressOf ?_
    refine rw_step rfl rfl ?_
    refine rw_icmp rfl (fun hc3 => ?_) (fun hc3 => ?_)
    · have hc3 : ¬ rr_addr (nI n) = p := by simpa [rb_cmp] using hc3
      refine rw_step rfl rfl ?_
      exact nxt y (rr_with_step (fun h9 => absurd h9.2 hc3) (fun _ => hy))
    have hc3 : rr_addr (nI n) = p := by simpa [rb_cmp] using hc3
    refine rw_step rfl rfl ?_
    refine rw_step rfl rfl ?_
    exact nxt (nI n) (rr_with_step (fun _ => rfl) (fun h9 => absurd ⟨⟨hc, hc2⟩, hc3⟩ h9))
theorem rr_nodeWith {r p : Int32} (hq : Q (some (.int (rr_with A r p 15))) (rr_h A t)) : rb_cw (d + 2) 49 [.ref 0, .int r, .int p] (rr_h A t) Q := by
  refine rw_ent rfl rfl rfl ?_
  refine rw_step rfl rfl ?_
  refine rw_step rfl rfl ?_
  refine rw_step rfl rfl ?_
  refine rw_step rfl rfl ?_
  exact rr_nodeWith_loop hq 15 0 0 (-1) rfl rfl rfl
theorem rr_behind {n r : Nat} (hn : n < 15) (hr : A 3 n = nI r) (hr3 : r < 3) (hm : ¬ A 1 r = 0) (hq : Q (some (.int (rr_rem (A 0 n + 1) (A 1 r)))) (rr_h A t)) : rb_cw (d + 1) 50 [.ref 0, .int (nI n)] (rr_h A t) Q := by
  refine rw_ent rfl rfl rfl ?_
  repeat (first | refine rw_step rfl rfl ?_ | refine rr_ld rfl rfl rfl (by omega) rfl ?_)
  refine rr_ld (i := r) rfl rfl hr (by omega) rfl ?_
  refine rw_rem rfl hm ?_
  refine rw_ret rfl rfl rfl ?_
  exact hq
/-- purge of ring r, whose monitor is node m, on ring r -/
def rr_purge (A : Nat → Nat → Int32) (r m : Nat) : Nat → Nat → Int32 := rr_up (rr_up (rr_up (rr_up A 21 r 4) 29 r (A 30 r)) 22 r (rr_rem (A 0 m + 1) (A 1 r))) 31 (3 * r) (A 31 (3 * r) + 1)
theorem rr_c3 (n : Nat) : (3 : Int32) * nI n = nI (3 * n) := rr_mul 3 n
theorem rr_purgeM {r m : Nat} (hr : r < 3) (hm : m < 15) (hw : rr_with A (nI r) (A 30 r) 15 = nI m) (hmr : A 3 m = nI r) (hmem : ¬ A 1 r = 0) (hq : Q none (rr_h (rr_purge A r m) t)) : rb_cw (d + 3) 57 [.ref 0, .int (nI r)] (rr_h A t) Q := by
  refine rw_ent rfl rfl rfl ?_
  repeat (first | refine rw_step rfl rfl ?_ | refine rr_ld rfl rfl rfl (by omega) rfl ?_)
  refine rw_call rfl rfl rfl ?_
  refine rr_nodeWith ?_
  rw [hw]
  repeat (first | refine rw_step rfl rfl ?_ | refine rr_ld rfl rfl rfl (by omega) rfl ?_ | refine rr_st rfl (fun _ => rfl) rfl (by omega) rfl ?_)
  refine rw_call rfl rfl rfl ?_
  refine rr_behind (r := r) hm hmr hr hmem ?_
  refine rr_st rfl (fun _ => rfl) rfl (by omega) rfl ?_
  repeat refine rw_step rfl rfl ?_
  refine rr_ld (i := 3 * r) rfl rfl (rr_c3 r) (by omega) rfl ?_
  repeat refine rw_step rfl rfl ?_
  refine rr_st (i := 3 * r) rfl (fun _ => rfl) (rr_c3 r) (by omega) rfl ?_
  refine rw_ret rfl rfl rfl ?_
  exact hq
end RRD
end
section
/-! the reference: watch, token -/
section RRE
variable {d : Nat} {Q : Option Value → rb_H → Prop} {A : Nat → Nat → Int32} {t : Int32}
def rr_watch (A : Nat → Nat → Int32) (r n : Nat) : Int32 × (Nat → Nat → Int32) :=
  if ¬ rr_addr (nI n) = A 30 r then (0, A) else if A 21 r = 1 ∧ A 24 r = 0 then (0, A) else if A 26 r = 0 then (0, rr_up A 26 r 1) else (1, rr_purge A r n)
theorem rr_watchM {r n : Nat} (hr : r < 3) (hn : n < 15) (hw : rr_with A (nI r) (rr_addr (nI n)) 15 = nI n) (hnr : A 3 n = nI r) (hmem : ¬ A 1 r = 0) (hq : Q (some (.int (rr_watch A r n).1)) (rr_h (rr_watch A r n).2 t)) : rb_cw (d + 4) 59 [.ref 0, .int (nI r), .int (nI n)] (rr_h A t) Q := by
  refine rw_ent rfl rfl rfl ?_
  refine rw_step rfl rfl ?_
  refine rw_call rfl rfl rfl ?_
  refine rr_addressOf ?_
  repeat (first | refine rw_step rfl rfl ?_ | refine rr_ld rfl rfl rfl (by omega) rfl ?_)
  refine rw_icmp rfl (fun hc => ?_) (fun hc => ?_)
  · have hc : rr_addr (nI n) = A 30 r := by simpa [rb_cmp] using hc
    rw [rr_watch, if_neg (fun h9 => h9 hc)] at hq
    repeat (first | refine rw_step rfl rfl ?_ | refine rr_ld rfl rfl rfl (by omega) rfl ?_)
    have tail : (¬ (A 21 r = 1 ∧ A 24 r = 0)) → rb_wp (d + 3) 59 36 [.ref 0, .int (nI r), .int (nI n)] [] (rr_h A t) Q := by
      intro hne
      rw [if_neg hne] at hq
      repeat (first | refine rw_step rfl rfl ?_ | refine rr_ldz rfl rfl rfl (by omega) rfl ?_)
      refine rw_if rfl (fun h26 => ?_) (fun h26 => ?_)
      · have h26 : A 26 r = 0 := by simpa [rb_cmp] using h26
        rw [if_pos h26] at hq
        repeat (first | refine rw_step rfl rfl ?_ | refine rr_stz rfl rfl (fun _ => rfl) rfl (by omega) rfl ?_)
        refine rw_ret rfl rfl rfl ?_
        exact hq
      · have h26 : ¬ A 26 r = 0 := by simpa [rb_cmp] using h26
        rw [if_neg h26] at hq
        repeat refine rw_step rfl rfl ?_
        refine rw_call rfl rfl rfl ?_
        refine rr_purgeM (m := n) hr hn (by rw [← hc]; exact hw) hnr hmem ?_
        repeat refine rw_step rfl rfl ?_
        refine rw_ret rfl rfl rfl ?_
        exact hq
    refine rw_icmp rfl (fun h21 => ?_) (fun h21 => ?_)
    · have h21 : ¬ A 21 r = 1 := by simpa [rb_cmp] using h21
      exact tail (fun h9 => h21 h9.1)
    have h21 : A 21 r = 1 := by simpa [rb_cmp] using h21
    repeat (first | refine rw_step rfl rfl ?_ | refine rr_ld rfl rfl rfl (by omega) rfl ?_)
    refine rw_if rfl (fun h24 => ?_) (fun h24 => ?_)
    · have h24 : ¬ A 24 r = 0 := by simpa [rb_cmp] using h24
      exact tail (fun h9 => h24 h9.2)
    have h24 : A 24 r = 0 := by simpa [rb_cmp] using h24
    rw [if_pos ⟨h21, h24⟩] at hq
    repeat refine rw_step rfl rfl ?_
    refine rw_ret rfl rfl rfl ?_
    exact hq
  · have hc : ¬ rr_addr (nI n) = A 30 r := by simpa [rb_cmp] using hc
    rw [rr_watch, if_pos hc] at hq
    repeat refine rw_step rfl rfl ?_
    refine rw_ret rfl rfl rfl ?_
    exact hq
def rr_shift (A : Nat → Nat → Int32) (b : Nat) : Nat → Nat → Nat → Int32
  | 0 => A
  | k + 1 => rr_copy (rr_shift A b k) (b + k + 1) (b + k)
theorem rr_copy_lo {x y j i : Nat} (h : ¬ (8 ≤ j ∧ j ≤ 20)) : rr_copy A x y j i = A j i := by
  unfold rr_copy
  rw [if_neg (fun h9 => h h9.1)]
theorem rr_shift_lo {b j i : Nat} (h : ¬ (8 ≤ j ∧ j ≤ 20)) : ∀ k, rr_shift A b k j i = A j i
  | 0 => rfl
  | k + 1 => by rw [rr_shift, rr_copy_lo h, rr_shift_lo h k]
/-- the first frame of node n goes on ring r; w wait -/
def rr_send1 (A : Nat → Nat → Int32) (r n w : Nat) : Nat → Nat → Int32 := rr_shift (rr_up (rr_copy A (4 * n) (60 + r)) 4 n (nI (w - 1))) (4 * n) (w - 1)
def rr_send2 (A : Nat → Nat → Int32) (r n : Nat) : Nat → Nat → Int32 := rr_up (rr_up (rr_up (rr_up (rr_up (rr_up A 21 r 2) 25 r 0) 26 r 0) 27 r 0) 28 r 0) 29 r (rr_addr (nI n))
def rr_send (A : Nat → Nat → Int32) (r n w : Nat) : Nat → Nat → Int32 := rr_up (rr_send2 (rr_send1 A r n w) r n) 31 (3 * r + 1) (rr_send2 (rr_send1 A r n w) r n 31 (3 * r + 1) + 1)
theorem rr_send_end {B : Nat → Nat → Int32} {r n : Nat} {x3 x4 x5 : Value} (hr : r < 3) (hq : Q none (rr_h (rr_up (rr_send2 B r n) 31 (3 * r + 1) (rr_send2 B r n 31 (3 * r + 1) + 1)) t)) : rb_wp (d + 1) 60 203 [.ref 0, .int (nI r), .int (nI n), x3, x4, x5] [] (rr_h B t) Q := by
  repeat (first | refine rw_step rfl rfl ?_ | refine rr_st rfl (fun _ => rfl) rfl (by omega) rfl ?_ | refine rr_stz rfl rfl (fun _ => rfl) rfl (by omega) rfl ?_)
  refine rw_call rfl rfl rfl ?_
  refine rr_addressOf ?_
  refine rr_st rfl (fun _ => rfl) rfl (by omega) rfl ?_
  repeat refine rw_step rfl rfl ?_
  have e1 : (3 : Int32) * nI r + 1 = nI (3 * r + 1) := by rw [rr_c3, nI_1]
  refine rr_ld (i := 3 * r + 1) rfl rfl e1 (by omega) rfl ?_
  repeat refine rw_step rfl rfl ?_
  refine rr_st (i := 3 * r + 1) rfl (fun _ => rfl) e1 (by omega) rfl ?_
  repeat refine rw_step rfl rfl ?_
  refine rw_ret rfl rfl rfl ?_
  exact hq
theorem rr_send_loop {B : Nat → Nat → Int32} {r n w : Nat} {x3 x4 : Value} (hr : r < 3) (hn : n < 15) (hw : w ≤ 3) (hB : B 4 n = nI w) (hq : Q none (rr_h (rr_up (rr_send2 (rr_shift B (4 * n) w) r n) 31 (3 * r + 1) (rr_send2 (rr_shift B (4 * n) w) r n 31 (3 * r + 1) + 1)) t)) : ∀ (f k : Nat) (x : Int32), k + f = w → x = nI k → rb_wp (d + 1) 60 168 [.ref 0, .int (nI r), .int (nI n), x3, x4, .int x] [] (rr_h (rr_shift B (4 * n) k) t) Q := by
  intro f
  induction f with
  | zero =>
    intro k x hf hx
    have hk : k = w := by omega
    subst hk hx
    repeat (first | refine rw_step rfl rfl ?_ | refine rr_ld rfl rfl rfl (by omega) rfl ?_)
    rw [rr_shift_lo (by omega) k, hB]
    refine rw_icmp rfl (fun hc => ?_) (fun hc => ?_)
    · exact rr_send_end hr hq
    · exact absurd (of_decide_eq_false hc) (fun h9 => h9 (nI_le (Nat.le_refl _) (by omega)))
  | succ f ih =>
    intro k x hf hx
    subst hx
    repeat (first | refine rw_step rfl rfl ?_ | refine rr_ld rfl rfl rfl (by omega) rfl ?_)
    rw [rr_shift_lo (by omega) k, hB]
    refine rw_icmp rfl (fun hc => absurd (of_decide_eq_true hc) (nI_ge (by omega) (by omega))) (fun _ => ?_)
    repeat refine rw_step rfl rfl ?_
    refine rw_call rfl rfl rfl ?_
    have e1 : (4 : Int32) * nI n + nI k + 1 = nI (4 * n + k + 1) := by rw [rr_c4, nI_add, nI_1]
    have e2 : (4 : Int32) * nI n + nI k = nI (4 * n + k) := by rw [rr_c4, nI_add]
    show rb_cw (d + 1) 53 [.ref 0, .int ((4 : Int32) * nI n + nI k + 1), .int ((4 : Int32) * nI n + nI k)] _ _
    rw [e1, e2]
    refine rr_copyFrame (by omega) (by omega) ?_
    refine rw_step rfl rfl ?_
    refine rw_step rfl rfl ?_
    exact ih (k + 1) (nI k + 1) (by omega) (nI_1 k)
end RRE
end
section
/-! the reference: token -/
section RRF
variable {d : Nat} {Q : Option Value → rb_H → Prop} {A : Nat → Nat → Int32} {t : Int32}
def rr_tokEnd (B : Nat → Nat → Int32) (r n w : Nat) : Nat → Nat → Int32 := if ¬ rr_wish B n < B 24 r then rr_send B r n w else if ¬ rr_wish B n ≤ B 25 r then rr_up B 25 r (rr_wish B n) else B
theorem rr_tokEndM {B : Nat → Nat → Int32} {r n w : Nat} {x3 x4 x5 : Value} (hr : r < 3) (hn : n < 15) (hw : B 4 n = nI w) (hw4 : w ≤ 4) (hp : -1 < B 24 r) (hq : Q none (rr_h (rr_tokEnd B r n w) t)) : rb_wp (d + 1) 60 126 [.ref 0, .int (nI r), .int (nI n), x3, x4, x5] [] (rr_h B t) Q := by
  repeat refine rw_step rfl rfl ?_
  refine rw_call rfl rfl rfl ?_
  refine rr_wishM hn ?_
  repeat (first | refine rw_step rfl rfl ?_ | refine rr_ld rfl rfl rfl (by omega) rfl ?_)
  refine rw_icmp rfl (fun hc => ?_) (fun hc => ?_)
  · have hc : rr_wish B n < B 24 r := of_decide_eq_true hc
    rw [rr_tokEnd, if_neg (fun h9 => h9 hc)] at hq
    repeat (first | refine rw_step rfl rfl ?_ | refine rr_ld rfl rfl rfl (by omega) rfl ?_)
    refine rw_icmp rfl (fun hc2 => ?_) (fun hc2 => ?_)
    · have hc2 : rr_wish B n ≤ B 25 r := of_decide_eq_true hc2
      rw [if_neg (fun h9 => h9 hc2)] at hq
      refine rw_ret rfl rfl rfl ?_
      exact hq
    · have hc2 : ¬ rr_wish B n ≤ B 25 r := of_decide_eq_false hc2
      rw [if_pos hc2] at hq
      repeat (first | refine rw_step rfl rfl ?_ | refine rr_st rfl (fun _ => rfl) rfl (by omega) rfl ?_)
      refine rw_ret rfl rfl rfl ?_
      exact hq
  · have hc : ¬ rr_wish B n < B 24 r := of_decide_eq_false hc
    rw [rr_tokEnd, if_pos hc] at hq
    have hw0 : 1 ≤ w := by
      refine Nat.not_lt.mp (fun h9 => hc ?_)
      have : w = 0 := by omega
      subst this
      rw [rr_wish, if_pos (show B 4 n = 0 from hw)]
      exact hp
    repeat refine rw_step rfl rfl ?_
    refine rw_call rfl rfl rfl ?_
    have e1 : (60 : Int32) + nI r = nI (60 + r) := nI_add 60 r
    show rb_cw (d + 1) 53 [.ref 0, .int ((4 : Int32) * nI n), .int ((60 : Int32) + nI r)] _ _
    rw [rr_c4, e1]
    refine rr_copyFrame (by omega) (by omega) ?_
    repeat (first | refine rw_step rfl rfl ?_ | refine rr_ld rfl rfl rfl (by omega) rfl ?_)
    refine rr_st rfl (fun _ => rfl) rfl (by omega) rfl ?_
    have e2 : rr_copy B (4 * n) (60 + r) 4 n - 1 = nI (w - 1) := by
      rw [rr_copy_lo (by omega), hw]
      obtain ⟨v, rfl⟩ : ∃ v, w = v + 1 := ⟨w - 1, by omega⟩
      exact nI_pred v
    dsimp only
    rw [e2]
    refine rw_step rfl rfl ?_
    refine rw_step rfl rfl ?_
    exact rr_send_loop (B := rr_up (rr_copy B (4 * n) (60 + r)) 4 n (nI (w - 1))) (w := w - 1) hr hn (by omega) (rr_up_same _ _ _ _) hq (w - 1) 0 0 (by omega) rfl
def rr_low (B : Nat → Nat → Int32) (r n q : Nat) : Nat → Nat → Int32 :=
  if 0 < q ∧ B 7 (8 * n + q - 1) = B 24 r then rr_up (if ¬ B 25 r ≤ B 6 (8 * n + q - 1) then rr_up (rr_up (rr_up B 7 (8 * n + q - 1) (B 25 r)) 24 r (B 25 r)) 25 r 0 else rr_up (rr_up B 5 n (nI (q - 1))) 24 r (B 6 (8 * n + q - 1))) 26 r 0 else B
theorem rr_c8 (n : Nat) : (8 : Int32) * nI n = nI (8 * n) := rr_mul 8 n
theorem rr_lowM {B : Nat → Nat → Int32} {r n w q : Nat} {x3 x4 x5 : Value} (hr : r < 3) (hn : n < 15) (hqv : B 5 n = nI q) (hq8 : q ≤ 8) (hw : rr_low B r n q 4 n = nI w) (hw4 : w ≤ 4) (hp : -1 < rr_low B r n q 24 r) (hq : Q none (rr_h (rr_tokEnd (rr_low B r n q) r n w) t)) : rb_wp (d + 1) 60 10 [.ref 0, .int (nI r), .int (nI n), x3, x4, x5] [] (rr_h B t) Q := by
  repeat (first | refine rw_step rfl rfl ?_ | refine rr_ld rfl rfl rfl (by omega) rfl ?_)
  refine rw_if rfl (fun hc => ?_) (fun hc => ?_)
  · have hc : B 5 n ≤ 0 := of_decide_eq_true hc
    have h0 : ¬ (0 < q ∧ B 7 (8 * n + q - 1) = B 24 r) := by
      rintro ⟨h9, -⟩
      rw [hqv] at hc
      exact nI_nle h9 (by omega) hc
    rw [rr_low, if_neg h0] at hq hw hp
    exact rr_tokEndM hr hn hw hw4 hp hq
  · have hc : ¬ B 5 n ≤ 0 := of_decide_eq_false hc
    have h0 : 0 < q := by
      refine Nat.pos_of_ne_zero (fun h9 => hc ?_)
      subst h9
      rw [hqv]
      decide
    have etop : (8 : Int32) * nI n + B 5 n - 1 = nI (8 * n + q - 1) := by
      rw [rr_c8, hqv, nI_add]
      obtain ⟨v, rfl⟩ : ∃ v, q = v + 1 := ⟨q - 1, by omega⟩
      exact nI_pred (8 * n + v)
    repeat refine rw_step rfl rfl ?_
    refine rr_ld (i := 8 * n + q - 1) rfl rfl etop (by omega) rfl ?_
    repeat (first | refine rw_step rfl rfl ?_ | refine rr_ld rfl rfl rfl (by omega) rfl ?_)
    refine rw_icmp rfl (fun hc2 => ?_) (fun hc2 => ?_)
    · have hc2 : ¬ B 7 (8 * n + q - 1) = B 24 r := by simpa [rb_cmp] using hc2
      rw [rr_low, if_neg (fun h9 => hc2 h9.2)] at hq hw hp
      exact rr_tokEndM hr hn hw hw4 hp hq
    have hc2 : B 7 (8 * n + q - 1) = B 24 r := by simpa [rb_cmp] using hc2
    rw [rr_low, if_pos ⟨h0, hc2⟩] at hq hw hp
    repeat (first | refine rw_step rfl rfl ?_ | refine rr_ld rfl rfl rfl (by omega) rfl ?_)
    refine rr_ld (i := 8 * n + q - 1) rfl rfl etop (by omega) rfl ?_
    refine rw_icmp rfl (fun hc3 => ?_) (fun hc3 => ?_)
    · have hc3 : B 25 r ≤ B 6 (8 * n + q - 1) := of_decide_eq_true hc3
      rw [if_neg (fun h9 => h9 hc3)] at hq hw hp
      repeat (first | refine rw_step rfl rfl ?_ | refine rr_ld rfl rfl rfl (by omega) rfl ?_)
      refine rr_st rfl (fun _ => rfl) rfl (by omega) rfl ?_
      have e5 : B 5 n - 1 = nI (q - 1) := by
        rw [hqv]
        obtain ⟨v, rfl⟩ : ∃ v, q = v + 1 := ⟨q - 1, by omega⟩
        exact nI_pred v
      dsimp only
      rw [e5]
      repeat refine rw_step rfl rfl ?_
      refine rr_ld (i := 8 * n + q - 1) rfl rfl etop (by omega) rfl ?_
      refine rr_st rfl (fun _ => rfl) rfl (by omega) rfl ?_
      repeat refine rw_step rfl rfl ?_
      refine rr_stz rfl rfl (fun _ => rfl) rfl (by omega) rfl ?_
      exact rr_tokEndM hr hn hw hw4 hp hq
    · have hc3 : ¬ B 25 r ≤ B 6 (8 * n + q - 1) := of_decide_eq_false hc3
      rw [if_pos hc3] at hq hw hp
      repeat (first | refine rw_step rfl rfl ?_ | refine rr_ld rfl rfl rfl (by omega) rfl ?_)
      refine rr_st (i := 8 * n + q - 1) rfl (fun _ => rfl) etop (by omega) rfl ?_
      repeat (first | refine rw_step rfl rfl ?_ | refine rr_ld rfl rfl rfl (by omega) rfl ?_)
      refine rr_st rfl (fun _ => rfl) rfl (by omega) rfl ?_
      repeat refine rw_step rfl rfl ?_
      refine rr_st rfl (fun _ => rfl) rfl (by omega) rfl ?_
      repeat refine rw_step rfl rfl ?_
      refine rr_stz rfl rfl (fun _ => rfl) rfl (by omega) rfl ?_
      exact rr_tokEndM hr hn hw hw4 hp hq
def rr_token (A : Nat → Nat → Int32) (r n w q : Nat) : Nat → Nat → Int32 := if (rr_watch A r n).1 = 0 then rr_tokEnd (rr_low (rr_watch A r n).2 r n q) r n w else (rr_watch A r n).2
theorem rr_tokenM {r n w q : Nat} (hr : r < 3) (hn : n < 15) (hwi : rr_with A (nI r) (rr_addr (nI n)) 15 = nI n) (hnr : A 3 n = nI r) (hmem : ¬ A 1 r = 0) (hqv : (rr_watch A r n).2 5 n = nI q) (hq8 : q ≤ 8) (hw : rr_low (rr_watch A r n).2 r n q 4 n = nI w) (hw4 : w ≤ 4) (hp : (rr_watch A r n).1 = 0 → -1 < rr_low (rr_watch A r n).2 r n q 24 r) (hq : Q none (rr_h (rr_token A r n w q) t)) : rb_cw (d + 5) 60 [.ref 0, .int (nI r), .int (nI n)] (rr_h A t) Q := by
  refine rw_ent rfl rfl rfl ?_
  repeat refine rw_step rfl rfl ?_
  refine rw_call rfl rfl rfl ?_
  refine rr_watchM hr hn hwi hnr hmem ?_
  refine rw_if rfl (fun hc => ?_) (fun hc => ?_)
  · have hc : (rr_watch A r n).1 = 0 := by simpa [rb_cmp] using hc
    rw [rr_token, if_pos hc] at hq
    exact rr_lowM hr hn hqv hq8 hw hw4 (hp hc) hq
  · have hc : ¬ (rr_watch A r n).1 = 0 := by simpa [rb_cmp] using hc
    rw [rr_token, if_neg hc] at hq
    refine rw_ret rfl rfl rfl ?_
    exact hq
end RRF
end
section
/-! the reference: answer, accept -/
theorem rw_ne {x y : Int32} (h : rb_cmp .ne x y = true) : ¬ x = y := by simpa [rb_cmp] using h
theorem rw_neF {x y : Int32} (h : rb_cmp .ne x y = false) : x = y := by simpa [rb_cmp] using h
theorem rw_eq {x y : Int32} (h : rb_cmp .eq x y = true) : x = y := by simpa [rb_cmp] using h
theorem rw_eqF {x y : Int32} (h : rb_cmp .eq x y = false) : ¬ x = y := by simpa [rb_cmp] using h
section RRG
variable {d : Nat} {Q : Option Value → rb_H → Prop} {A : Nat → Nat → Int32} {t : Int32}
def rr_one (A : Nat → Nat → Int32) (c : Nat) : Int32 := if A 40 c < 0 then A 39 c else A 40 c
def rr_two (A : Nat → Nat → Int32) (c : Nat) : Int32 := if A 40 c < 0 then -1 else A 39 c
def rr_ans0 (A : Nat → Nat → Int32) (c : Nat) (k one two : Int32) : Nat → Nat → Int32 := rr_up (rr_up (rr_up (rr_make A k 2 (A 37 c) (A 36 c) one two) 17 63 (nI c)) 18 63 (A 41 c)) 19 63 (rr_rem (A 49 c) 8)
def rr_ans (A : Nat → Nat → Int32) (c : Nat) (k : Int32) (n w : Nat) : Nat → Nat → Int32 := rr_queue (rr_ans0 A c k (rr_one A c) (rr_two A c)) n w
theorem rr_ans_tail {c n w : Nat} {k one two : Int32} (hc : c < 4) (hn : n < 15) (hto : A 37 c = nI (n + 1)) (hw : A 4 n = nI w) (hw4 : w ≤ 4) (hq : Q none (rr_h (rr_queue (rr_ans0 A c k one two) n w) t)) : rb_wp (d + 2) 64 46 [.ref 0, .int (nI c), .int k, .int one, .int two] [] (rr_h A t) Q := by
  repeat (first | refine rw_step rfl rfl ?_ | refine rr_ld rfl rfl rfl (by omega) rfl ?_)
  refine rw_call rfl rfl rfl ?_
  refine rr_makeFrame ?_
  repeat (first | refine rr_st (i := 63) rfl (fun _ => rfl) rfl (by omega) rfl ?_ | refine rw_step rfl rfl ?_ | refine rr_ld rfl rfl rfl (by omega) rfl ?_)
  refine rw_call rfl rfl rfl ?_
  have e1 : A 37 c - 1 = nI n := by rw [hto]; exact nI_pred n
  show rb_cw (d + 2) 54 [.ref 0, .int (A 37 c - 1)] (rr_h (rr_ans0 A c k one two) t) _
  rw [e1]
  refine rr_queueNew hn hw hw4 ?_
  refine rw_ret rfl rfl rfl ?_
  exact hq
theorem rr_answer {c n w : Nat} {k : Int32} (hc : c < 4) (hn : n < 15) (hto : A 37 c = nI (n + 1)) (hw : A 4 n = nI w) (hw4 : w ≤ 4) (hq : Q none (rr_h (rr_ans A c k n w) t)) : rb_cw (d + 3) 64 [.ref 0, .int (nI c), .int k] (rr_h A t) Q := by
  refine rw_ent rfl rfl rfl ?_
  repeat (first | refine rw_step rfl rfl ?_ | refine rr_ld rfl rfl rfl (by omega) rfl ?_)
  refine rw_if rfl (fun h1 => ?_) (fun h1 => ?_)
  · have h2 : A 40 c < 0 := of_decide_eq_true h1
    rw [rr_ans, rr_one, rr_two, if_pos h2, if_pos h2] at hq
    repeat (first | refine rw_step rfl rfl ?_ | refine rr_ld rfl rfl rfl (by omega) rfl ?_)
    refine rw_if rfl (fun _ => ?_) (fun h3 => absurd (h1.symm.trans h3) (by decide))
    refine rw_step rfl rfl ?_
    refine rw_step rfl rfl ?_
    exact rr_ans_tail hc hn hto hw hw4 hq
  · have h2 : ¬ A 40 c < 0 := of_decide_eq_false h1
    rw [rr_ans, rr_one, rr_two, if_neg h2, if_neg h2] at hq
    repeat (first | refine rw_step rfl rfl ?_ | refine rr_ld rfl rfl rfl (by omega) rfl ?_)
    refine rw_if rfl (fun h3 => absurd (h3.symm.trans h1) (by decide)) (fun _ => ?_)
    refine rw_step rfl rfl ?_
    refine rw_step rfl rfl ?_
    refine rw_step rfl rfl ?_
    refine rr_ld rfl rfl rfl (by omega) rfl ?_
    refine rw_step rfl rfl ?_
    refine rw_step rfl rfl ?_
    exact rr_ans_tail hc hn hto hw hw4 hq
def rr_late (A : Nat → Nat → Int32) (c : Nat) (s : Int32) : Int32 := rr_rem (rr_rem (A 49 c) 8 - s + 8) 8
def rr_take (A : Nat → Nat → Int32) (c ib : Nat) (v : Int32) : Nat → Nat → Int32 := rr_up (rr_up (rr_up (rr_up A 51 (4 * c + ib) v) 50 c (A 50 c + 1)) 49 c (A 49 c + 1)) 52 c 0
def rr_acc (A : Nat → Nat → Int32) (c : Nat) (s v : Int32) (ib n w : Nat) : Nat → Nat → Int32 :=
  if rr_late A c s = 0 ∧ ¬ 4 ≤ A 50 c then rr_ans (rr_take A c ib v) c 3 n w
  else if rr_late A c s = 0 then rr_ans (rr_up A 53 c 1) c 5 n w
  else if ¬ 4 < rr_late A c s then rr_ans A c 3 n w
  else if A 52 c = 0 then rr_ans (rr_up A 52 c 1) c 4 n w else A
theorem rr_accept {c ib n w : Nat} {s v : Int32} (hc : c < 4) (hib : A 50 c = nI ib) (hib4 : ib ≤ 4) (hn : n < 15) (hto : A 37 c = nI (n + 1)) (hw : A 4 n = nI w) (hw4 : w ≤ 4) (hq : Q none (rr_h (rr_acc A c s v ib n w) t)) : rb_cw (d + 4) 65 [.ref 0, .int (nI c), .int s, .int v] (rr_h A t) Q := by
  refine rw_ent rfl rfl rfl ?_
  repeat (first | refine rw_step rfl rfl ?_ | refine rr_ld rfl rfl rfl (by omega) rfl ?_)
  have low : (¬ (rr_late A c s = 0 ∧ ¬ 4 ≤ A 50 c)) → rb_wp (d + 3) 65 90 [.ref 0, .int (nI c), .int s, .int v, .int (rr_rem (A 49 c) 8), .int (rr_late A c s)] [] (rr_h A t) Q := by
    intro hne
    rw [rr_acc, if_neg hne] at hq
    repeat refine rw_step rfl rfl ?_
    refine rw_if rfl (fun h1 => ?_) (fun h1 => ?_)
    · have h1 : ¬ rr_late A c s = 0 := by simpa [rb_cmp] using h1
      rw [if_neg h1] at hq
      repeat refine rw_step rfl rfl ?_
      refine rw_icmp rfl (fun h2 => ?_) (fun h2 => ?_)
      · have h2 : 4 < rr_late A c s := of_decide_eq_true h2
        rw [if_neg (fun h9 => h9 h2)] at hq
        repeat (first | refine rw_step rfl rfl ?_ | refine rr_ldz rfl rfl rfl (by omega) rfl ?_)
        refine rw_if rfl (fun h3 => ?_) (fun h3 => ?_)
        · have h3 : ¬ A 52 c = 0 := by simpa [rb_cmp] using h3
          rw [if_neg h3] at hq
          refine rw_ret rfl rfl rfl ?_
          exact hq
        · have h3 : A 52 c = 0 := by simpa [rb_cmp] using h3
          rw [if_pos h3] at hq
          repeat (first | refine rw_step rfl rfl ?_ | refine rr_stz rfl rfl (fun _ => rfl) rfl (by omega) rfl ?_)
          refine rw_call rfl rfl rfl ?_
          refine rr_answer hc hn hto hw hw4 ?_
          refine rw_ret rfl rfl rfl ?_
          exact hq
      · have h2 : ¬ 4 < rr_late A c s := of_decide_eq_false h2
        rw [if_pos h2] at hq
        repeat refine rw_step rfl rfl ?_
        refine rw_call rfl rfl rfl ?_
        refine rr_answer hc hn hto hw hw4 ?_
        refine rw_step rfl rfl ?_
        refine rw_ret rfl rfl rfl ?_
        exact hq
    · have h1 : rr_late A c s = 0 := by simpa [rb_cmp] using h1
      rw [if_pos h1] at hq
      repeat (first | refine rw_step rfl rfl ?_ | refine rr_stz rfl rfl (fun _ => rfl) rfl (by omega) rfl ?_)
      refine rw_call rfl rfl rfl ?_
      refine rr_answer hc hn hto hw hw4 ?_
      refine rw_step rfl rfl ?_
      refine rw_ret rfl rfl rfl ?_
      exact hq
  refine rw_if rfl (fun h1 => ?_) (fun h1 => ?_)
  · have h1 : ¬ rr_late A c s = 0 := rw_ne h1
    exact low (fun h9 => h1 h9.1)
  have h1 : rr_late A c s = 0 := rw_neF h1
  repeat (first | refine rw_step rfl rfl ?_ | refine rr_ld rfl rfl rfl (by omega) rfl ?_)
  refine rw_icmp rfl (fun h2 => ?_) (fun h2 => ?_)
  · have h2 : 4 ≤ A 50 c := of_decide_eq_true h2
    exact low (fun h9 => h9.2 h2)
  have h2 : ¬ 4 ≤ A 50 c := of_decide_eq_false h2
  have hib3 : ib < 4 := by
    refine Nat.lt_of_le_of_ne hib4 (fun h9 => h2 ?_)
    subst h9
    rw [hib]
    decide
  rw [rr_acc, if_pos ⟨h1, h2⟩] at hq
  repeat (first | refine rw_step rfl rfl ?_ | refine rr_ld rfl rfl rfl (by omega) rfl ?_)
  have e1 : (4 : Int32) * nI c + A 50 c = nI (4 * c + ib) := by rw [rr_c4, hib, nI_add]
  refine rr_st (i := 4 * c + ib) rfl (fun _ => rfl) e1 (by omega) rfl ?_
  repeat (first | refine rw_step rfl rfl ?_ | refine rr_ld rfl rfl rfl (by omega) rfl ?_ | refine rr_st rfl (fun _ => rfl) rfl (by omega) rfl ?_ | refine rr_stz rfl rfl (fun _ => rfl) rfl (by omega) rfl ?_)
  refine rw_call rfl rfl rfl ?_
  refine rr_answer (n := n) hc hn hto hw hw4 ?_
  refine rw_step rfl rfl ?_
  refine rw_ret rfl rfl rfl ?_
  exact hq
end RRG
end
section
/-! the reference: heard -/
section RRI
variable {d : Nat} {Q : Option Value → rb_H → Prop} {A : Nat → Nat → Int32} {t : Int32}
def rr_hd3 (B : Nat → Nat → Int32) (c : Nat) (k : Int32) : Nat → Nat → Int32 := if k = 5 then rr_up (rr_up B 46 c 1) 47 c 0 else if k = 4 then rr_up (rr_up B 46 c 0) 43 c 0 else rr_up B 46 c 0
theorem rr_hd3M {B : Nat → Nat → Int32} {c : Nat} {k num many x5 : Int32} (hc : c < 4) (hq : Q none (rr_h (rr_hd3 B c k) t)) : rb_wp d 66 130 [.ref 0, .int (nI c), .int k, .int num, .int many, .int x5] [] (rr_h B t) Q := by
  repeat refine rw_step rfl rfl ?_
  refine rw_icmp rfl (fun h1 => ?_) (fun h1 => ?_)
  · have h1 : ¬ k = 5 := rw_ne h1
    rw [rr_hd3, if_neg h1] at hq
    repeat (first | refine rw_step rfl rfl ?_ | refine rr_stz rfl rfl (fun _ => rfl) rfl (by omega) rfl ?_)
    refine rw_icmp rfl (fun h2 => ?_) (fun h2 => ?_)
    · have h2 : ¬ k = 4 := rw_ne h2
      rw [if_neg h2] at hq
      repeat refine rw_step rfl rfl ?_
      refine rw_icmp rfl (fun _ => ?_) (fun h3 => absurd (rw_neF h3) h1)
      refine rw_ret rfl rfl rfl ?_
      exact hq
    · have h2 : k = 4 := rw_neF h2
      rw [if_pos h2] at hq
      repeat (first | refine rw_step rfl rfl ?_ | refine rr_st rfl (fun _ => rfl) rfl (by omega) rfl ?_)
      refine rw_icmp rfl (fun _ => ?_) (fun h3 => absurd (rw_neF h3) h1)
      refine rw_ret rfl rfl rfl ?_
      exact hq
  · have h1 : k = 5 := rw_neF h1
    rw [rr_hd3, if_pos h1] at hq
    repeat (first | refine rw_step rfl rfl ?_ | refine rr_stz rfl rfl (fun _ => rfl) rfl (by omega) rfl ?_)
    refine rw_icmp rfl (fun _ => ?_) (fun h2 => absurd ((rw_neF h2).symm.trans h1) (by decide))
    repeat refine rw_step rfl rfl ?_
    refine rw_icmp rfl (fun h3 => absurd h1 (rw_ne h3)) (fun _ => ?_)
    repeat (first | refine rw_step rfl rfl ?_ | refine rr_st rfl (fun _ => rfl) rfl (by omega) rfl ?_)
    refine rw_ret rfl rfl rfl ?_
    exact hq
def rr_hd2 (B : Nat → Nat → Int32) (c : Nat) (many : Int32) : Nat → Nat → Int32 := if many ≤ 0 then rr_up (rr_up B 42 c (B 42 c + many)) 43 c (B 43 c - many) else rr_up (rr_up (rr_up (rr_up B 42 c (B 42 c + many)) 43 c (B 43 c - many)) 47 c 0) 48 c 0
theorem rr_hd2M {B : Nat → Nat → Int32} {c : Nat} {k num many x5 : Int32} (hc : c < 4) (hq : Q none (rr_h (rr_hd3 (rr_hd2 B c many) c k) t)) : rb_wp d 66 89 [.ref 0, .int (nI c), .int k, .int num, .int many, .int x5] [] (rr_h B t) Q := by
  repeat (first | refine rw_step rfl rfl ?_ | refine rr_ld rfl rfl rfl (by omega) rfl ?_ | refine rr_st rfl (fun _ => rfl) rfl (by omega) rfl ?_)
  refine rw_if rfl (fun h1 => ?_) (fun h1 => ?_)
  · rw [rr_hd2, if_pos (of_decide_eq_true h1)] at hq
    exact rr_hd3M hc hq
  · rw [rr_hd2, if_neg (of_decide_eq_false h1)] at hq
    refine rw_step rfl rfl ?_
    refine rw_step rfl rfl ?_
    refine rw_step rfl rfl ?_
    refine rw_step rfl rfl ?_
    refine rr_st rfl (fun _ => rfl) rfl (by omega) rfl ?_
    refine rw_step rfl rfl ?_
    refine rw_step rfl rfl ?_
    refine rw_step rfl rfl ?_
    refine rw_step rfl rfl ?_
    refine rr_st rfl (fun _ => rfl) rfl (by omega) rfl ?_
    exact rr_hd3M hc hq
/-- the first mm of connection c's offered numbers go -/
def rr_drop (B : Nat → Nat → Int32) (c mm : Nat) : Nat → Nat → Nat → Int32
  | 0 => B
  | i + 1 => rr_up (rr_drop B c mm i) 45 (8 * c + i) (rr_drop B c mm i 45 (8 * c + i + mm))
theorem rr_drop_lo {B : Nat → Nat → Int32} {c mm j x : Nat} (h : ¬ j = 45) : ∀ i, rr_drop B c mm i j x = B j x
  | 0 => rfl
  | i + 1 => by rw [rr_drop, rr_up_at, if_neg (fun h9 => h h9.1), rr_drop_lo h i]
theorem rr_dropM {B : Nat → Nat → Int32} {c mm o : Nat} {k num : Int32} (hc : c < 4) (hB : B 44 c = nI o) (ho : o + mm ≤ 8) (hq : Q none (rr_h (rr_hd3 (rr_hd2 (rr_drop B c mm o) c (nI mm)) c k) t)) : ∀ (f i : Nat) (x : Int32), i + f = o → x = nI i → rb_wp d 66 45 [.ref 0, .int (nI c), .int k, .int num, .int (nI mm), .int x] [] (rr_h (rr_drop B c mm i) t) Q := by
  intro f
  induction f with
  | zero =>
    intro i x hf hx
    have hk : i = o := by omega
    subst hk hx
    repeat (first | refine rw_step rfl rfl ?_ | refine rr_ld rfl rfl rfl (by omega) rfl ?_)
    rw [rr_drop_lo (by omega) i, hB]
    refine rw_icmp rfl (fun hc2 => ?_) (fun hc2 => ?_)
    · exact rr_hd2M hc hq
    · exact absurd (of_decide_eq_false hc2) (fun h9 => h9 (nI_le (Nat.le_refl _) (by omega)))
  | succ f ih =>
    intro i x hf hx
    subst hx
    repeat (first | refine rw_step rfl rfl ?_ | refine rr_ld rfl rfl rfl (by omega) rfl ?_)
    rw [rr_drop_lo (by omega) i, hB]
    refine rw_icmp rfl (fun hc2 => absurd (of_decide_eq_true hc2) (nI_ge (by omega) (by omega))) (fun _ => ?_)
    have e1 : (8 : Int32) * nI c + nI i = nI (8 * c + i) := by rw [rr_c8, nI_add]
    have e2 : (8 : Int32) * nI c + nI i + nI mm = nI (8 * c + i + mm) := by rw [rr_c8, nI_add, nI_add]
    repeat refine rw_step rfl rfl ?_
    refine rr_ld (i := 8 * c + i + mm) rfl rfl e2 (by omega) rfl ?_
    refine rr_st (i := 8 * c + i) rfl (fun _ => rfl) e1 (by omega) rfl ?_
    refine rw_step rfl rfl ?_
    refine rw_step rfl rfl ?_
    exact ih (i + 1) (nI i + 1) (by omega) (nI_1 i)
def rr_many (A : Nat → Nat → Int32) (c : Nat) (num : Int32) : Int32 := rr_rem (num - rr_rem (A 42 c) 8 + 8) 8
def rr_hear (A : Nat → Nat → Int32) (c : Nat) (k num : Int32) (mm o : Nat) : Nat → Nat → Int32 := if ¬ rr_many A c num ≤ A 43 c then A else rr_hd3 (rr_hd2 (rr_drop (rr_up A 44 c (nI (o - mm))) c mm (o - mm)) c (nI mm)) c k
theorem rr_heard {c mm o : Nat} {k num : Int32} (hc : c < 4) (hmm : rr_many A c num = nI mm) (ho : A 44 c = nI o) (ho8 : o ≤ 8) (hle : rr_many A c num ≤ A 43 c → mm ≤ o) (hq : Q none (rr_h (rr_hear A c k num mm o) t)) : rb_cw (d + 1) 66 [.ref 0, .int (nI c), .int k, .int num] (rr_h A t) Q := by
  refine rw_ent rfl rfl rfl ?_
  repeat (first | refine rw_step rfl rfl ?_ | refine rr_ld rfl rfl rfl (by omega) rfl ?_)
  refine rw_icmp rfl (fun h1 => ?_) (fun h1 => ?_)
  · have h1 : rr_many A c num ≤ A 43 c := of_decide_eq_true h1
    have hmo := hle h1
    rw [rr_hear, if_neg (fun h9 => h9 h1)] at hq
    repeat (first | refine rw_step rfl rfl ?_ | refine rr_ld rfl rfl rfl (by omega) rfl ?_)
    refine rr_st rfl (fun _ => rfl) rfl (by omega) rfl ?_
    refine rw_step rfl rfl ?_
    refine rw_step rfl rfl ?_
    have e1 : A 44 c - rr_many A c num = nI (o - mm) := by
      rw [ho, hmm]
      obtain ⟨v, rfl⟩ : ∃ v, o = v + mm := ⟨o - mm, by omega⟩
      rw [show v + mm - mm = v by omega, ← nI_add]
      exact Int32.add_sub_cancel _ _
    show rb_wp d 66 45 [.ref 0, .int (nI c), .int k, .int num, .int (rr_many A c num), .int 0] [] (rr_h (rr_up A 44 c (A 44 c - rr_many A c num)) t) Q
    rw [e1, hmm]
    exact rr_dropM (B := rr_up A 44 c (nI (o - mm))) hc (rr_up_same _ _ _ _) (by omega) hq (o - mm) 0 0 (by omega) rfl
  · have h1 : ¬ rr_many A c num ≤ A 43 c := of_decide_eq_false h1
    rw [rr_hear, if_pos h1] at hq
    refine rw_ret rfl rfl rfl ?_
    exact hq
end RRI
end
section
/-! the reference: receive at a port -/
section RRJ
variable {d : Nat} {h : rb_H} {Q : Option Value → rb_H → Prop} {A : Nat → Nat → Int32} {t : Int32}
def rr_oth (n : Nat) : Nat := if n % 2 = 1 then n + 1 else n - 1
theorem rr_rem2 : ∀ n, n < 15 → rr_rem (nI n) 2 = nI (n % 2) := by decide +kernel
theorem rr_other {n : Nat} (hn : n < 15) (h1 : 1 ≤ n) (hq : Q (some (.int (nI (rr_oth n)))) h) : rb_cw (d + 1) 52 [.int (nI n)] h Q := by
  refine rw_ent rfl rfl rfl ?_
  repeat refine rw_step rfl rfl ?_
  refine rw_icmp rfl (fun hc => ?_) (fun hc => ?_)
  · have hc : ¬ rr_rem (nI n) 2 = 1 := rw_ne hc
    have h2 : ¬ n % 2 = 1 := fun h9 => hc (by rw [rr_rem2 n hn, h9]; rfl)
    rw [rr_oth, if_neg h2] at hq
    repeat refine rw_step rfl rfl ?_
    refine rw_ret rfl rfl rfl ?_
    have e1 : nI n - 1 = nI (n - 1) := by
      obtain ⟨v, rfl⟩ : ∃ v, n = v + 1 := ⟨n - 1, by omega⟩
      exact nI_pred v
    dsimp only
    rw [e1]
    exact hq
  · have hc : rr_rem (nI n) 2 = 1 := rw_neF hc
    have h2 : n % 2 = 1 := by
      rw [rr_rem2 n hn] at hc
      exact (nI_eq (by omega) (by omega)).mp hc
    rw [rr_oth, if_pos h2] at hq
    repeat refine rw_step rfl rfl ?_
    refine rw_ret rfl rfl rfl ?_
    dsimp only
    rw [nI_1]
    exact hq
/-- the frame made at place 63 goes into the queue of the other port, and the frame is COPIED -/
def rr_pfin (B : Nat → Nat → Int32) (r o w : Nat) : Nat → Nat → Int32 := rr_up (rr_queue B o w) 28 r 1
theorem rr_pfinM {B : Nat → Nat → Int32} {r o w : Nat} {x2 x3 x4 x5 : Value} (hr : r < 3) (ho : o < 15) (hw : B 4 o = nI w) (hw4 : w ≤ 4) (hq : Q none (rr_h (rr_pfin B r o w) t)) : rb_wp (d + 2) 63 184 [.ref 0, .int (nI r), x2, x3, x4, x5, .int (nI o)] [] (rr_h B t) Q := by
  repeat refine rw_step rfl rfl ?_
  refine rw_call rfl rfl rfl ?_
  refine rr_queueNew ho hw hw4 ?_
  repeat (first | refine rw_step rfl rfl ?_ | refine rr_stz rfl rfl (fun _ => rfl) rfl (by omega) rfl ?_)
  refine rw_ret rfl rfl rfl ?_
  exact hq
def rr_spread1 (A : Nat → Nat → Int32) (r : Nat) (kk : Int32) : Nat → Nat → Int32 := if 0 ≤ rr_copy A (60 + r) 63 14 (60 + r) then rr_up (rr_copy A (60 + r) 63) 15 63 kk else rr_up (rr_copy A (60 + r) 63) 14 63 kk
def rr_spread (A : Nat → Nat → Int32) (r o : Nat) (kk : Int32) : Nat → Nat → Int32 := rr_up (rr_spread1 A r kk) 16 63 (rr_spread1 A r kk 16 (60 + r) ||| (1 : Int32) <<< (rr_spread1 A r kk 3 o &&& 31))
def rr_carry (A : Nat → Nat → Int32) (r : Nat) : Nat → Nat → Int32 := rr_up (rr_up (rr_copy A (60 + r) 63) 12 63 (rr_copy A (60 + r) 63 13 (60 + r))) 13 63 (-1)
def rr_port (A : Nat → Nat → Int32) (r o w : Nat) (kk : Int32) : Nat → Nat → Int32 :=
  if A 4 o = 4 then A
  else if A 8 (60 + r) = 0 then (if 0 ≤ A 15 (60 + r) ∨ ((A 16 (60 + r) >>> (A 3 o &&& 31)) &&& 1) = 1 then A else rr_pfin (rr_spread A r o kk) r o w)
  else if ¬ A 12 (60 + r) = kk then A else rr_pfin (rr_carry A r) r o w
theorem rr_spread2M {B : Nat → Nat → Int32} {r o w : Nat} {x2 x4 x5 : Value} (hr : r < 3) (ho : o < 15) (hw : B 4 o = nI w) (hw4 : w ≤ 4) (hq : Q none (rr_h (rr_pfin (rr_up B 16 63 (B 16 (60 + r) ||| (1 : Int32) <<< (B 3 o &&& 31))) r o w) t)) : rb_wp (d + 2) 63 118 [.ref 0, .int (nI r), x2, .int (nI (60 + r)), x4, x5, .int (nI o)] [] (rr_h B t) Q := by
  repeat (first | refine rr_st (i := 63) rfl (fun _ => rfl) rfl (by omega) rfl ?_ | refine rw_step rfl rfl ?_ | refine rr_ld rfl rfl rfl (by omega) rfl ?_)
  refine rw_call rfl rfl rfl ?_
  refine rr_queueNew ho hw hw4 ?_
  repeat (first | refine rw_step rfl rfl ?_ | refine rr_stz rfl rfl (fun _ => rfl) rfl (by omega) rfl ?_)
  refine rw_ret rfl rfl rfl ?_
  exact hq
theorem rr_portM {r n w : Nat} {x4 x5 x6 : Value} {kk : Int32} (hr : r < 3) (hn : n < 15) (hn9 : 9 ≤ n) (ho : rr_oth n < 15) (hw : A 4 (rr_oth n) = nI w) (hw4 : w ≤ 4) (hq : Q none (rr_h (rr_port A r (rr_oth n) w kk) t)) : rb_wp (d + 2) 63 24 [.ref 0, .int (nI r), .int (nI n), .int (nI (60 + r)), x4, .int kk, x6] [] (rr_h A t) Q := by
  refine rw_step rfl rfl ?_
  refine rw_call rfl rfl rfl ?_
  refine rr_other hn (by omega) ?_
  generalize rr_oth n = o at *
  repeat (first | refine rw_step rfl rfl ?_ | refine rr_ld rfl rfl rfl (by omega) rfl ?_)
  refine rw_icmp rfl (fun h1 => ?_) (fun h1 => ?_)
  · have h1 : ¬ A 4 o = 4 := rw_ne h1
    rw [rr_port, if_neg h1] at hq
    repeat (first | refine rw_step rfl rfl ?_ | refine rr_ld rfl rfl rfl (by omega) rfl ?_)
    refine rw_if rfl (fun h2 => ?_) (fun h2 => ?_)
    · have h2 : ¬ A 8 (60 + r) = 0 := rw_ne h2
      rw [if_neg h2] at hq
      repeat (first | refine rw_step rfl rfl ?_ | refine rr_ld rfl rfl rfl (by omega) rfl ?_)
      refine rw_icmp rfl (fun h3 => ?_) (fun h3 => ?_)
      · have h3 : A 12 (60 + r) = kk := rw_eq h3
        rw [if_neg (fun h9 => h9 h3)] at hq
        repeat refine rw_step rfl rfl ?_
        refine rw_call rfl rfl rfl ?_
        refine rr_copyFrame (x := 60 + r) (y := 63) (by omega) (by omega) ?_
        repeat (first | refine rr_st (i := 63) rfl (fun _ => rfl) rfl (by omega) rfl ?_ | refine rw_step rfl rfl ?_ | refine rr_ld rfl rfl rfl (by omega) rfl ?_)
        refine rw_call rfl rfl rfl ?_
        refine rr_queueNew (w := w) ho ((rr_copy_lo (A := A) (x := 60 + r) (y := 63) (j := 4) (i := o) (by omega)).trans hw) hw4 ?_
        repeat (first | refine rw_step rfl rfl ?_ | refine rr_stz rfl rfl (fun _ => rfl) rfl (by omega) rfl ?_)
        refine rw_ret rfl rfl rfl ?_
        exact hq
      · have h3 : ¬ A 12 (60 + r) = kk := rw_eqF h3
        rw [if_pos h3] at hq
        refine rw_ret rfl rfl rfl ?_
        exact hq
    · have h2 : A 8 (60 + r) = 0 := rw_neF h2
      rw [if_pos h2] at hq
      repeat (first | refine rw_step rfl rfl ?_ | refine rr_ld rfl rfl rfl (by omega) rfl ?_)
      refine rw_if rfl (fun h3 => ?_) (fun h3 => ?_)
      · have h3 : 0 ≤ A 15 (60 + r) := of_decide_eq_true h3
        rw [if_pos (Or.inl h3)] at hq
        refine rw_ret rfl rfl rfl ?_
        exact hq
      have h3 : ¬ 0 ≤ A 15 (60 + r) := of_decide_eq_false h3
      repeat (first | refine rw_step rfl rfl ?_ | refine rr_ld rfl rfl rfl (by omega) rfl ?_)
      refine rw_icmp rfl (fun h4 => ?_) (fun h4 => ?_)
      · have h4 : ¬ ((A 16 (60 + r) >>> (A 3 o &&& 31)) &&& 1) = 1 := rw_ne h4
        rw [if_neg (fun h9 => h9.elim h3 h4)] at hq
        repeat refine rw_step rfl rfl ?_
        refine rw_call rfl rfl rfl ?_
        refine rr_copyFrame (x := 60 + r) (y := 63) (by omega) (by omega) ?_
        repeat (first | refine rw_step rfl rfl ?_ | refine rr_ld rfl rfl rfl (by omega) rfl ?_)
        refine rw_if rfl (fun h5 => ?_) (fun h5 => ?_)
        · have h5 := of_decide_eq_true h5
          rw [rr_spread, rr_spread1, if_pos h5] at hq
          refine rw_step rfl rfl ?_
          refine rw_step rfl rfl ?_
          refine rw_step rfl rfl ?_
          refine rw_step rfl rfl ?_
          refine rr_st (i := 63) rfl (fun _ => rfl) rfl (by omega) rfl ?_
          exact rr_spread2M hr ho ((rr_copy_lo (A := A) (x := 60 + r) (y := 63) (j := 4) (i := o) (by omega)).trans hw) hw4 hq
        · have h5 := of_decide_eq_false h5
          rw [rr_spread, rr_spread1, if_neg h5] at hq
          refine rw_step rfl rfl ?_
          refine rw_step rfl rfl ?_
          refine rw_step rfl rfl ?_
          refine rw_step rfl rfl ?_
          refine rr_st (i := 63) rfl (fun _ => rfl) rfl (by omega) rfl ?_
          refine rw_step rfl rfl ?_
          exact rr_spread2M hr ho ((rr_copy_lo (A := A) (x := 60 + r) (y := 63) (j := 4) (i := o) (by omega)).trans hw) hw4 hq
      · have h4 : ((A 16 (60 + r) >>> (A 3 o &&& 31)) &&& 1) = 1 := rw_neF h4
        rw [if_pos (Or.inr h4)] at hq
        refine rw_ret rfl rfl rfl ?_
        exact hq
  · have h1 : A 4 o = 4 := rw_neF h1
    rw [rr_port, if_pos h1] at hq
    refine rw_ret rfl rfl rfl ?_
    exact hq
end RRJ
end
section
/-! the reference: receive at a station -/
section RRK
variable {d : Nat} {Q : Option Value → rb_H → Prop} {A : Nat → Nat → Int32} {t : Int32}
def rr_use (B : Nat → Nat → Int32) (f c ib nn ww mm o : Nat) : Nat → Nat → Int32 := if B 35 c = 1 ∧ B 41 c = B 18 f then (if B 8 f = 2 then rr_acc B c (B 19 f) (B 20 f) ib nn ww else rr_hear B c (B 8 f) (B 19 f) mm o) else B
set_option maxRecDepth 100000 in
theorem rr_useM {B : Nat → Nat → Int32} {r c ib nn ww mm o : Nat} {x2 x4 x5 x6 : Value} (hr : r < 3) (hc : c < 4) (hcl : B 17 (60 + r) = nI c) (hA : (B 35 c = 1 ∧ B 41 c = B 18 (60 + r)) → B 8 (60 + r) = 2 → B 50 c = nI ib ∧ ib ≤ 4 ∧ nn < 15 ∧ B 37 c = nI (nn + 1) ∧ B 4 nn = nI ww ∧ ww ≤ 4) (hH : (B 35 c = 1 ∧ B 41 c = B 18 (60 + r)) → ¬ B 8 (60 + r) = 2 → rr_many B c (B 19 (60 + r)) = nI mm ∧ B 44 c = nI o ∧ o ≤ 8 ∧ (rr_many B c (B 19 (60 + r)) ≤ B 43 c → mm ≤ o)) (hq : Q none (rr_h (rr_use B (60 + r) c ib nn ww mm o) t)) : rb_wp (d + 4) 63 418 [.ref 0, .int (nI r), x2, .int (nI (60 + r)), x4, x5, x6] [] (rr_h B t) Q := by
  repeat (first | refine rw_step rfl rfl ?_ | refine rr_ld rfl rfl rfl (by omega) rfl ?_)
  refine rr_ld (i := c) rfl rfl hcl (by omega) rfl ?_
  repeat refine rw_step rfl rfl ?_
  refine rw_icmp rfl (fun h1 => ?_) (fun h1 => ?_)
  · have h1 : ¬ B 35 c = 1 := rw_ne h1
    rw [rr_use, if_neg (fun h9 => h1 h9.1)] at hq
    refine rw_ret rfl rfl rfl ?_
    exact hq
  have h1 : B 35 c = 1 := rw_neF h1
  repeat (first | refine rw_step rfl rfl ?_ | refine rr_ld rfl rfl rfl (by omega) rfl ?_)
  refine rr_ld (i := c) rfl rfl hcl (by omega) rfl ?_
  repeat (first | refine rw_step rfl rfl ?_ | refine rr_ld rfl rfl rfl (by omega) rfl ?_)
  refine rw_icmp rfl (fun h2 => ?_) (fun h2 => ?_)
  · have h2 : ¬ B 41 c = B 18 (60 + r) := rw_ne h2
    rw [rr_use, if_neg (fun h9 => h2 h9.2)] at hq
    refine rw_ret rfl rfl rfl ?_
    exact hq
  have h2 : B 41 c = B 18 (60 + r) := rw_neF h2
  rw [rr_use, if_pos ⟨h1, h2⟩] at hq
  repeat (first | refine rw_step rfl rfl ?_ | refine rr_ld rfl rfl rfl (by omega) rfl ?_)
  refine rw_icmp rfl (fun h3 => ?_) (fun h3 => ?_)
  · have h3 : ¬ B 8 (60 + r) = 2 := rw_ne h3
    rw [if_neg h3] at hq
    obtain ⟨g1, g2, g3, g4⟩ := hH ⟨h1, h2⟩ h3
    repeat (first | refine rw_step rfl rfl ?_ | refine rr_ld rfl rfl rfl (by omega) rfl ?_)
    refine rw_call rfl rfl rfl ?_
    show rb_cw (d + 4) 66 [.ref 0, .int (B 17 (60 + r)), .int (B 8 (60 + r)), .int (B 19 (60 + r))] (rr_h B t) _
    rw [hcl]
    refine rr_heard hc g1 g2 g3 g4 ?_
    refine rw_ret rfl rfl rfl ?_
    exact hq
  · have h3 : B 8 (60 + r) = 2 := rw_neF h3
    rw [if_pos h3] at hq
    obtain ⟨g1, g2, g3, g4, g5, g6⟩ := hA ⟨h1, h2⟩ h3
    repeat (first | refine rw_step rfl rfl ?_ | refine rr_ld rfl rfl rfl (by omega) rfl ?_)
    refine rw_call rfl rfl rfl ?_
    show rb_cw (d + 4) 65 [.ref 0, .int (B 17 (60 + r)), .int (B 19 (60 + r)), .int (B 20 (60 + r))] (rr_h B t) _
    rw [hcl]
    refine rr_accept hc g1 g2 g3 g4 g5 g6 ?_
    refine rw_step rfl rfl ?_
    refine rw_ret rfl rfl rfl ?_
    exact hq
def rr_learn (B : Nat → Nat → Int32) (f x : Nat) : Nat → Nat → Int32 := if B 32 x = 0 then rr_up (rr_up (rr_up B 32 x 1) 33 x (B 14 f)) 34 x (B 15 f) else B
theorem rr_c9 (n : Nat) : (9 : Int32) * nI n = nI (9 * n) := rr_mul 9 n
set_option maxRecDepth 100000 in
theorem rr_learnM {B : Nat → Nat → Int32} {r n m : Nat} {x2 x5 x6 : Value} (hr : r < 3) (hn : n < 9) (hm : m < 9) (hfrom : B 10 (60 + r) = nI (m + 1)) (hq : Q none (rr_h (rr_learn B (60 + r) (9 * n + m)) t)) : rb_wp d 63 353 [.ref 0, .int (nI r), x2, .int (nI (60 + r)), .int (nI (n + 1)), x5, x6] [] (rr_h B t) Q := by
  repeat (first | refine rw_step rfl rfl ?_ | refine rr_ld rfl rfl rfl (by omega) rfl ?_)
  have e1 : (9 : Int32) * (nI (n + 1) - 1) + B 10 (60 + r) - 1 = nI (9 * n + m) := by
    rw [nI_pred n, rr_c9, hfrom, nI_add]
    exact nI_pred (9 * n + m)
  refine rr_ldz (i := 9 * n + m) rfl rfl e1 (by omega) rfl ?_
  refine rw_if rfl (fun h1 => ?_) (fun h1 => ?_)
  · have h1 : ¬ B 32 (9 * n + m) = 0 := rw_ne h1
    rw [rr_learn, if_neg h1] at hq
    refine rw_step rfl rfl ?_
    refine rw_ret rfl rfl rfl ?_
    exact hq
  · have h1 : B 32 (9 * n + m) = 0 := rw_neF h1
    rw [rr_learn, if_pos h1] at hq
    repeat refine rw_step rfl rfl ?_
    refine rr_stz (i := 9 * n + m) rfl rfl (fun _ => rfl) e1 (by omega) rfl ?_
    repeat (first | refine rw_step rfl rfl ?_ | refine rr_ld rfl rfl rfl (by omega) rfl ?_)
    refine rr_st (i := 9 * n + m) rfl (fun _ => rfl) e1 (by omega) rfl ?_
    repeat (first | refine rw_step rfl rfl ?_ | refine rr_ld rfl rfl rfl (by omega) rfl ?_)
    refine rr_st (i := 9 * n + m) rfl (fun _ => rfl) e1 (by omega) rfl ?_
    refine rw_step rfl rfl ?_
    refine rw_ret rfl rfl rfl ?_
    exact hq
def rr_reply0 (B : Nat → Nat → Int32) (f : Nat) (a one two : Int32) : Nat → Nat → Int32 := rr_up (rr_up (rr_make B 1 2 a (B 10 f) one two) 14 63 (rr_make B 1 2 a (B 10 f) one two 14 f)) 15 63 (rr_make B 1 2 a (B 10 f) one two 15 f)
def rr_reply (B : Nat → Nat → Int32) (f n w : Nat) (a : Int32) : Nat → Nat → Int32 := if B 15 f < 0 then rr_queue (rr_reply0 B f a (B 14 f) (-1)) n w else rr_queue (rr_reply0 B f a (B 15 f) (B 14 f)) n w
set_option maxRecDepth 100000 in
theorem rr_replyTail {B : Nat → Nat → Int32} {r n w : Nat} {a one two : Int32} (hr : r < 3) (hn : n < 15) (hw : B 4 n = nI w) (hw4 : w ≤ 4) (hq : Q none (rr_h (rr_queue (rr_reply0 B (60 + r) a one two) n w) t)) : rb_wp (d + 2) 63 291 [.ref 0, .int (nI r), .int (nI n), .int (nI (60 + r)), .int a, .int one, .int two] [] (rr_h B t) Q := by
  repeat (first | refine rw_step rfl rfl ?_ | refine rr_ld rfl rfl rfl (by omega) rfl ?_)
  refine rw_call rfl rfl rfl ?_
  refine rr_makeFrame ?_
  repeat (first | refine rr_st (i := 63) rfl (fun _ => rfl) rfl (by omega) rfl ?_ | refine rw_step rfl rfl ?_ | refine rr_ld rfl rfl rfl (by omega) rfl ?_)
  refine rw_call rfl rfl rfl ?_
  refine rr_queueNew (w := w) hn hw hw4 ?_
  refine rw_step rfl rfl ?_
  refine rw_ret rfl rfl rfl ?_
  exact hq
set_option maxRecDepth 100000 in
theorem rr_replyM {B : Nat → Nat → Int32} {r n w : Nat} {a : Int32} {x5 x6 : Value} (hr : r < 3) (hn : n < 15) (hw : B 4 n = nI w) (hw4 : w ≤ 4) (hq : Q none (rr_h (rr_reply B (60 + r) n w a) t)) : rb_wp (d + 2) 63 244 [.ref 0, .int (nI r), .int (nI n), .int (nI (60 + r)), .int a, x5, x6] [] (rr_h B t) Q := by
  repeat (first | refine rw_step rfl rfl ?_ | refine rr_ld rfl rfl rfl (by omega) rfl ?_)
  refine rw_if rfl (fun h1 => ?_) (fun h1 => ?_)
  · rw [rr_reply, if_pos (of_decide_eq_true h1)] at hq
    repeat (first | refine rw_step rfl rfl ?_ | refine rr_ld rfl rfl rfl (by omega) rfl ?_)
    refine rw_if rfl (fun _ => ?_) (fun h3 => absurd (h1.symm.trans h3) (by decide))
    refine rw_step rfl rfl ?_
    refine rw_step rfl rfl ?_
    exact rr_replyTail hr hn hw hw4 hq
  · rw [rr_reply, if_neg (of_decide_eq_false h1)] at hq
    repeat (first | refine rw_step rfl rfl ?_ | refine rr_ld rfl rfl rfl (by omega) rfl ?_)
    refine rw_if rfl (fun h3 => absurd (h3.symm.trans h1) (by decide)) (fun _ => ?_)
    refine rw_step rfl rfl ?_
    refine rw_step rfl rfl ?_
    refine rw_step rfl rfl ?_
    refine rr_ld rfl rfl rfl (by omega) rfl ?_
    refine rw_step rfl rfl ?_
    refine rw_step rfl rfl ?_
    exact rr_replyTail hr hn hw hw4 hq
end RRK
end
section
/-! the reference: receive -/
section RRM
variable {d : Nat} {Q : Option Value → rb_H → Prop} {A : Nat → Nat → Int32} {t : Int32}
theorem rr_e60 (r : Nat) : (60 : Int32) + nI r = nI (60 + r) := nI_add 60 r
set_option maxRecDepth 100000 in
theorem rr_receiveP {r n w : Nat} (hr : r < 3) (hn : n < 15) (hn9 : 9 ≤ n) (ho : rr_oth n < 15) (hw : A 4 (rr_oth n) = nI w) (hw4 : w ≤ 4) (hq : Q none (rr_h (rr_port A r (rr_oth n) w (rr_addr (nI n) - 10)) t)) : rb_cw (d + 3) 63 [.ref 0, .int (nI r), .int (nI n)] (rr_h A t) Q := by
  refine rw_ent rfl rfl rfl ?_
  repeat refine rw_step rfl rfl ?_
  refine rw_call rfl rfl rfl ?_
  refine rr_addressOf ?_
  repeat refine rw_step rfl rfl ?_
  refine rw_icmp rfl (fun h1 => absurd (of_decide_eq_true h1) (nI_nlt (a := n) (b := 9) hn9 (by omega))) (fun _ => ?_)
  refine rw_step rfl rfl ?_
  refine rw_step rfl rfl ?_
  refine rw_step rfl rfl ?_
  refine rw_step rfl rfl ?_
  show rb_wp (d + 2) 63 24 [.ref 0, .int (nI r), .int (nI n), .int ((60 : Int32) + nI r), .int (rr_addr (nI n)), .int (rr_addr (nI n) - 10), .retAddr 0] [] (rr_h A t) Q
  rw [rr_e60]
  exact rr_portM (x5 := .null) hr hn hn9 ho hw hw4 hq
def rr_stat (A : Nat → Nat → Int32) (r n w m c ib nn ww mm o : Nat) : Nat → Nat → Int32 :=
  if ¬ A 11 (60 + r) = nI (n + 1) then A
  else if ¬ A 8 (60 + r) = 0 ∧ ¬ A 12 (60 + r) < 0 then A
  else if A 8 (60 + r) = 0 then rr_reply (rr_up A 28 r 1) (60 + r) n w (nI (n + 1))
  else if A 8 (60 + r) = 1 then rr_learn (rr_up A 28 r 1) (60 + r) (9 * n + m)
  else rr_use (rr_up A 28 r 1) (60 + r) c ib nn ww mm o
/-- what a frame of a connection must be for the reference to take it -/
def rr_useOk (A : Nat → Nat → Int32) (f c ib nn ww mm o : Nat) : Prop := c < 4 ∧ A 17 f = nI c ∧ ((A 35 c = 1 ∧ A 41 c = A 18 f) → A 8 f = 2 → A 50 c = nI ib ∧ ib ≤ 4 ∧ nn < 15 ∧ A 37 c = nI (nn + 1) ∧ A 4 nn = nI ww ∧ ww ≤ 4) ∧ ((A 35 c = 1 ∧ A 41 c = A 18 f) → ¬ A 8 f = 2 → rr_many A c (A 19 f) = nI mm ∧ A 44 c = nI o ∧ o ≤ 8 ∧ (rr_many A c (A 19 f) ≤ A 43 c → mm ≤ o))
set_option maxRecDepth 100000 in
theorem rr_statTail {r n w m c ib nn ww mm o : Nat} {x5 x6 : Value} (hr : r < 3) (hn : n < 9) (hE : A 8 (60 + r) = 0 → A 4 n = nI w ∧ w ≤ 4) (hR : A 8 (60 + r) = 1 → m < 9 ∧ A 10 (60 + r) = nI (m + 1)) (hU : ¬ A 8 (60 + r) = 0 → ¬ A 8 (60 + r) = 1 → rr_useOk A (60 + r) c ib nn ww mm o) (hq : Q none (rr_h (if A 8 (60 + r) = 0 then rr_reply (rr_up A 28 r 1) (60 + r) n w (nI (n + 1)) else if A 8 (60 + r) = 1 then rr_learn (rr_up A 28 r 1) (60 + r) (9 * n + m) else rr_use (rr_up A 28 r 1) (60 + r) c ib nn ww mm o) t)) : rb_wp (d + 4) 63 228 [.ref 0, .int (nI r), .int (nI n), .int (nI (60 + r)), .int (nI (n + 1)), x5, x6] [] (rr_h A t) Q := by
  repeat (first | refine rw_step rfl rfl ?_ | refine rr_stz rfl rfl (fun _ => rfl) rfl (by omega) rfl ?_ | refine rr_ld rfl rfl rfl (by omega) rfl ?_)
  refine rw_if rfl (fun h1 => ?_) (fun h1 => ?_)
  · have h1 : ¬ A 8 (60 + r) = 0 := rw_ne h1
    rw [if_neg h1] at hq
    repeat (first | refine rw_step rfl rfl ?_ | refine rr_ld rfl rfl rfl (by omega) rfl ?_)
    refine rw_icmp rfl (fun h2 => ?_) (fun h2 => ?_)
    · have h2 : ¬ A 8 (60 + r) = 1 := rw_ne h2
      rw [if_neg h2] at hq
      obtain ⟨g1, g2, g3, g4⟩ := hU h1 h2
      exact rr_useM (B := rr_up A 28 r 1) hr g1 g2 g3 g4 hq
    · have h2 : A 8 (60 + r) = 1 := rw_neF h2
      rw [if_pos h2] at hq
      obtain ⟨g1, g2⟩ := hR h2
      exact rr_learnM (B := rr_up A 28 r 1) hr hn g1 g2 hq
  · have h1 : A 8 (60 + r) = 0 := rw_neF h1
    rw [if_pos h1] at hq
    obtain ⟨g1, g2⟩ := hE h1
    exact rr_replyM (d := d + 2) (B := rr_up A 28 r 1) hr (by omega) g1 g2 hq
theorem rr_addrS {n : Nat} (hn : n < 9) : rr_addr (nI n) = nI (n + 1) := by
  rw [rr_addr, if_pos (show nI n < 9 from nI_lt (a := n) (b := 9) hn (by omega)), nI_1]
set_option maxRecDepth 100000 in
theorem rr_receiveS {r n w m c ib nn ww mm o : Nat} (hr : r < 3) (hn : n < 9) (hE : A 8 (60 + r) = 0 → A 4 n = nI w ∧ w ≤ 4) (hR : A 8 (60 + r) = 1 → m < 9 ∧ A 10 (60 + r) = nI (m + 1)) (hU : ¬ A 8 (60 + r) = 0 → ¬ A 8 (60 + r) = 1 → rr_useOk A (60 + r) c ib nn ww mm o) (hq : Q none (rr_h (rr_stat A r n w m c ib nn ww mm o) t)) : rb_cw (d + 5) 63 [.ref 0, .int (nI r), .int (nI n)] (rr_h A t) Q := by
  refine rw_ent rfl rfl rfl ?_
  repeat refine rw_step rfl rfl ?_
  refine rw_call rfl rfl rfl ?_
  refine rr_addressOf ?_
  repeat refine rw_step rfl rfl ?_
  refine rw_icmp rfl (fun _ => ?_) (fun h1 => absurd (nI_lt (a := n) (b := 9) hn (by omega)) (of_decide_eq_false h1))
  show rb_wp (d + 4) 63 198 [.ref 0, .int (nI r), .int (nI n), .int ((60 : Int32) + nI r), .int (rr_addr (nI n)), .retAddr 0, .retAddr 0] [] (rr_h A t) Q
  rw [rr_e60, rr_addrS hn]
  repeat (first | refine rw_step rfl rfl ?_ | refine rr_ld rfl rfl rfl (by omega) rfl ?_)
  refine rw_icmp rfl (fun h1 => ?_) (fun h1 => ?_)
  · have h1 : ¬ A 11 (60 + r) = nI (n + 1) := rw_ne h1
    rw [rr_stat, if_pos h1] at hq
    refine rw_ret rfl rfl rfl ?_
    exact hq
  have h1 : A 11 (60 + r) = nI (n + 1) := rw_neF h1
  rw [rr_stat, if_neg (fun h9 => h9 h1)] at hq
  repeat (first | refine rw_step rfl rfl ?_ | refine rr_ld rfl rfl rfl (by omega) rfl ?_)
  refine rw_if rfl (fun h2 => ?_) (fun h2 => ?_)
  · have h2 : A 8 (60 + r) = 0 := rw_eq h2
    rw [if_neg (fun h9 => h9.1 h2)] at hq
    exact rr_statTail hr hn hE hR hU hq
  have h2 : ¬ A 8 (60 + r) = 0 := rw_eqF h2
  repeat (first | refine rw_step rfl rfl ?_ | refine rr_ld rfl rfl rfl (by omega) rfl ?_)
  refine rw_if rfl (fun h3 => ?_) (fun h3 => ?_)
  · have h3 : A 12 (60 + r) < 0 := of_decide_eq_true h3
    rw [if_neg (fun h9 => h9.2 h3)] at hq
    exact rr_statTail hr hn hE hR hU hq
  · have h3 : ¬ A 12 (60 + r) < 0 := of_decide_eq_false h3
    rw [if_pos ⟨h2, h3⟩] at hq
    refine rw_ret rfl rfl rfl ?_
    exact hq
end RRM
end
section
/-! the reference: frame -/
section RRN
variable {d : Nat} {Q : Option Value → rb_H → Prop} {A : Nat → Nat → Int32} {t : Int32}
def rr_max (w v : Int32) : Int32 := if w ≤ v then v else w
def rr_fe1 (A : Nat → Nat → Int32) (r : Nat) : Nat → Nat → Int32 := rr_up A 31 (3 * r + 2) (A 31 (3 * r + 2) + (if A 28 r = 0 then 1 else 0))
def rr_fe2 (B : Nat → Nat → Int32) (r n q : Nat) (m : Int32) : Nat → Nat → Int32 := if m ≤ B 24 r then rr_tok B r (B 24 r) m else rr_tok (rr_up (rr_up (rr_up B 6 (8 * n + q) (B 24 r)) 7 (8 * n + q) m) 5 n (B 5 n + 1)) r m 0
theorem rr_fe2M {B : Nat → Nat → Int32} {r n q : Nat} {m : Int32} {x3 x4 x5 : Value} (hr : r < 3) (hn : n < 15) (hqv : B 5 n = nI q) (hq7 : q ≤ 7) (hq : Q none (rr_h (rr_fe2 B r n q m) t)) : rb_wp (d + 1) 61 66 [.ref 0, .int (nI r), .int (nI n), x3, x4, x5] [.int m] (rr_h B t) Q := by
  have etop : (8 : Int32) * nI n + B 5 n = nI (8 * n + q) := by rw [rr_c8, hqv, nI_add]
  repeat (first | refine rw_step rfl rfl ?_ | refine rr_ld rfl rfl rfl (by omega) rfl ?_)
  refine rw_icmp rfl (fun h1 => ?_) (fun h1 => ?_)
  · rw [rr_fe2, if_pos (of_decide_eq_true h1)] at hq
    repeat refine rw_step rfl rfl ?_
    refine rw_call rfl rfl rfl ?_
    refine rr_setToken hr ?_
    refine rw_ret rfl rfl rfl ?_
    exact hq
  · rw [rr_fe2, if_neg (of_decide_eq_false h1)] at hq
    repeat (first | refine rw_step rfl rfl ?_ | refine rr_ld rfl rfl rfl (by omega) rfl ?_)
    refine rr_st (i := 8 * n + q) rfl (fun _ => rfl) etop (by omega) rfl ?_
    repeat (first | refine rw_step rfl rfl ?_ | refine rr_ld rfl rfl rfl (by omega) rfl ?_)
    refine rr_st (i := 8 * n + q) rfl (fun _ => rfl) etop (by omega) rfl ?_
    repeat (first | refine rw_step rfl rfl ?_ | refine rr_ld rfl rfl rfl (by omega) rfl ?_ | refine rr_st rfl (fun _ => rfl) rfl (by omega) rfl ?_)
    refine rw_call rfl rfl rfl ?_
    refine rr_setToken hr ?_
    refine rw_step rfl rfl ?_
    refine rw_ret rfl rfl rfl ?_
    exact hq
theorem rr_fe1M {B : Nat → Nat → Int32} {r n q : Nat} {w : Int32} {x4 x5 : Value} (hr : r < 3) (hn : n < 15) (hqv : B 5 n = nI q) (hq7 : q ≤ 7) (hq : Q none (rr_h (rr_fe2 B r n q (rr_max w (B 25 r))) t)) : rb_wp (d + 1) 61 46 [.ref 0, .int (nI r), .int (nI n), .int w, x4, x5] [] (rr_h B t) Q := by
  refine rw_step rfl rfl ?_
  refine rw_step rfl rfl ?_
  refine rw_step rfl rfl ?_
  refine rw_step rfl rfl ?_
  refine rr_ld rfl rfl rfl (by omega) rfl ?_
  refine rw_icmp rfl (fun h1 => ?_) (fun h1 => ?_)
  · rw [rr_max, if_pos (of_decide_eq_true h1)] at hq
    refine rw_step rfl rfl ?_
    refine rw_step rfl rfl ?_
    refine rw_step rfl rfl ?_
    refine rr_ld rfl rfl rfl (by omega) rfl ?_
    exact rr_fe2M hr hn hqv hq7 hq
  · rw [rr_max, if_neg (of_decide_eq_false h1)] at hq
    refine rw_step rfl rfl ?_
    refine rw_step rfl rfl ?_
    exact rr_fe2M hr hn hqv hq7 hq
theorem rr_frameEnd {r n q : Nat} {w : Int32} {x4 x5 : Value} (hr : r < 3) (hn : n < 15) (hqv : A 5 n = nI q) (hq7 : q ≤ 7) (hq : Q none (rr_h (rr_fe2 (rr_fe1 A r) r n q (rr_max w (A 25 r))) t)) : rb_wp (d + 1) 61 19 [.ref 0, .int (nI r), .int (nI n), .int w, x4, x5] [] (rr_h A t) Q := by
  have e1 : (3 : Int32) * nI r + 2 = nI (3 * r + 2) := by rw [rr_c3, lw_nI2]
  repeat refine rw_step rfl rfl ?_
  refine rr_ld (i := 3 * r + 2) rfl rfl e1 (by omega) rfl ?_
  repeat (first | refine rw_step rfl rfl ?_ | refine rr_ldz rfl rfl rfl (by omega) rfl ?_)
  refine rw_if rfl (fun h1 => ?_) (fun h1 => ?_)
  · have h1 : A 28 r = 0 := rw_eq h1
    rw [rr_fe1, if_pos h1] at hq
    refine rw_step rfl rfl ?_
    refine rw_step rfl rfl ?_
    refine rr_st (i := 3 * r + 2) rfl (fun _ => rfl) e1 (by omega) rfl ?_
    exact rr_fe1M (B := rr_up A 31 (3 * r + 2) (A 31 (3 * r + 2) + 1)) hr hn hqv hq7 hq
  · have h1 : ¬ A 28 r = 0 := rw_eqF h1
    rw [rr_fe1, if_neg h1] at hq
    refine rw_step rfl rfl ?_
    refine rw_step rfl rfl ?_
    refine rw_step rfl rfl ?_
    refine rr_st (i := 3 * r + 2) rfl (fun _ => rfl) e1 (by omega) rfl ?_
    exact rr_fe1M (B := rr_up A 31 (3 * r + 2) (A 31 (3 * r + 2) + 0)) hr hn hqv hq7 hq
def rr_fp (C : Nat → Nat → Int32) (r n : Nat) : Nat → Nat → Int32 := rr_up C 25 r (rr_max (rr_wish C n) (C 25 r))
theorem rr_fpM {C : Nat → Nat → Int32} {r n : Nat} {x3 x4 x5 : Value} (hr : r < 3) (hn : n < 15) (hq : Q none (rr_h (rr_fp C r n) t)) : rb_wp (d + 1) 61 175 [.ref 0, .int (nI r), .int (nI n), x3, x4, x5] [] (rr_h C t) Q := by
  repeat refine rw_step rfl rfl ?_
  refine rw_call rfl rfl rfl ?_
  refine rr_wishM hn ?_
  repeat (first | refine rw_step rfl rfl ?_ | refine rr_ld rfl rfl rfl (by omega) rfl ?_)
  refine rw_icmp rfl (fun h1 => ?_) (fun h1 => ?_)
  · rw [rr_fp, rr_max, if_pos (of_decide_eq_true h1)] at hq
    repeat (first | refine rw_step rfl rfl ?_ | refine rr_ld rfl rfl rfl (by omega) rfl ?_ | refine rr_st rfl (fun _ => rfl) rfl (by omega) rfl ?_)
    refine rw_ret rfl rfl rfl ?_
    exact hq
  · rw [rr_fp, rr_max, if_neg (of_decide_eq_false h1)] at hq
    repeat (first | refine rw_step rfl rfl ?_ | refine rr_st rfl (fun _ => rfl) rfl (by omega) rfl ?_)
    refine rw_ret rfl rfl rfl ?_
    exact hq
/-- frame: C is what receive makes of the state behind watch -/
def rr_frame (A : Nat → Nat → Int32) (r n q : Nat) (C : Nat → Nat → Int32) : Nat → Nat → Int32 :=
  if rr_addr (nI n) = A 29 r then rr_fe2 (rr_fe1 A r) r n q (rr_max (rr_wish A n) (A 25 r))
  else if ¬ (rr_watch A r n).1 = 0 then (rr_watch A r n).2
  else if (rr_watch A r n).2 27 r = 0 then rr_fp C r n else rr_fp (rr_watch A r n).2 r n
theorem rr_frameM {r n q : Nat} {C : Nat → Nat → Int32} (hr : r < 3) (hn : n < 15) (hqv : A 5 n = nI q) (hq7 : q ≤ 7) (hwi : rr_with A (nI r) (rr_addr (nI n)) 15 = nI n) (hnr : A 3 n = nI r) (hmem : ¬ A 1 r = 0) (hrec : ∀ Q' : Option Value → rb_H → Prop, Q' none (rr_h C t) → rb_cw (d + 5) 63 [.ref 0, .int (nI r), .int (nI n)] (rr_h (rr_watch A r n).2 t) Q') (hq : Q none (rr_h (rr_frame A r n q C) t)) : rb_cw (d + 6) 61 [.ref 0, .int (nI r), .int (nI n)] (rr_h A t) Q := by
  refine rw_ent rfl rfl rfl ?_
  repeat refine rw_step rfl rfl ?_
  refine rw_call rfl rfl rfl ?_
  refine rr_wishM hn ?_
  repeat refine rw_step rfl rfl ?_
  refine rw_call rfl rfl rfl ?_
  refine rr_addressOf ?_
  repeat (first | refine rw_step rfl rfl ?_ | refine rr_ld rfl rfl rfl (by omega) rfl ?_)
  refine rw_icmp rfl (fun h1 => ?_) (fun h1 => ?_)
  · have h1 : ¬ rr_addr (nI n) = A 29 r := rw_ne h1
    rw [rr_frame, if_neg h1] at hq
    repeat refine rw_step rfl rfl ?_
    refine rw_call rfl rfl rfl ?_
    refine rr_watchM hr hn hwi hnr hmem ?_
    refine rw_if rfl (fun h2 => ?_) (fun h2 => ?_)
    · have h2 : (rr_watch A r n).1 = 0 := rw_eq h2
      rw [if_neg (fun h9 => h9 h2)] at hq
      repeat (first | refine rw_step rfl rfl ?_ | refine rr_ldz rfl rfl rfl (by omega) rfl ?_)
      refine rw_if rfl (fun h3 => ?_) (fun h3 => ?_)
      · rw [if_neg (rw_ne h3)] at hq
        exact rr_fpM hr hn hq
      · rw [if_pos (rw_neF h3)] at hq
        repeat refine rw_step rfl rfl ?_
        refine rw_call rfl rfl rfl ?_
        refine hrec _ ?_
        exact rr_fpM hr hn hq
    · have h2 : ¬ (rr_watch A r n).1 = 0 := rw_eqF h2
      rw [if_pos h2] at hq
      refine rw_ret rfl rfl rfl ?_
      exact hq
  · have h1 : rr_addr (nI n) = A 29 r := rw_neF h1
    rw [rr_frame, if_pos h1] at hq
    exact rr_frameEnd hr hn hqv hq7 hq
end RRN
end
section
/-! the reference: move -/
section RRO
variable {d : Nat} {Q : Option Value → rb_H → Prop} {A : Nat → Nat → Int32} {t : Int32}
def rr_mv (B : Nat → Nat → Int32) (r n : Nat) (E G : Nat → Nat → Int32) : Nat → Nat → Int32 :=
  if B 21 r = 1 then E else if B 21 r = 2 then G
  else if B 21 r = 3 then (if rr_addr (nI n) = B 29 r then rr_purge (rr_up B 30 r (rr_addr (nI n))) r n else if rr_addr (nI n) ≤ B 29 r then B else rr_up B 29 r (rr_addr (nI n)))
  else (if rr_addr (nI n) = B 29 r then rr_tok (rr_up B 5 n 0) r 0 0 else rr_up B 5 n 0)
set_option maxRecDepth 100000 in
theorem rr_mvM {B E G : Nat → Nat → Int32} {r n : Nat} (hr : r < 3) (hn : n < 15) (hnr : B 3 n = nI r) (hmem : ¬ B 1 r = 0) (hpg : B 21 r = 3 → rr_addr (nI n) = B 29 r → rr_with (rr_up B 30 r (rr_addr (nI n))) (nI r) (rr_up B 30 r (rr_addr (nI n)) 30 r) 15 = nI n)
    (htok : B 21 r = 1 → ∀ Q' : Option Value → rb_H → Prop, Q' none (rr_h E t) → rb_cw (d + 6) 60 [.ref 0, .int (nI r), .int (nI n)] (rr_h B t) Q') (hfr : B 21 r = 2 → ∀ Q' : Option Value → rb_H → Prop, Q' none (rr_h G t) → rb_cw (d + 6) 61 [.ref 0, .int (nI r), .int (nI n)] (rr_h B t) Q')
    (hq : Q none (rr_h (rr_mv B r n E G) t)) : rb_wp (d + 6) 62 129 [.ref 0, .int (nI r), .int (nI n), .int (rr_addr (nI n))] [] (rr_h B t) Q := by
  repeat (first | refine rw_step rfl rfl ?_ | refine rr_ld rfl rfl rfl (by omega) rfl ?_)
  refine rw_icmp rfl (fun h1 => ?_) (fun h1 => ?_)
  · have h1 : ¬ B 21 r = 1 := rw_ne h1
    rw [rr_mv, if_neg h1] at hq
    repeat (first | refine rw_step rfl rfl ?_ | refine rr_ld rfl rfl rfl (by omega) rfl ?_)
    refine rw_icmp rfl (fun h2 => ?_) (fun h2 => ?_)
    · have h2 : ¬ B 21 r = 2 := rw_ne h2
      rw [if_neg h2] at hq
      repeat (first | refine rw_step rfl rfl ?_ | refine rr_ld rfl rfl rfl (by omega) rfl ?_)
      refine rw_icmp rfl (fun h3 => ?_) (fun h3 => ?_)
      · have h3 : ¬ B 21 r = 3 := rw_ne h3
        rw [if_neg h3] at hq
        repeat (first | refine rw_step rfl rfl ?_ | refine rr_ld rfl rfl rfl (by omega) rfl ?_ | refine rr_st rfl (fun _ => rfl) rfl (by omega) rfl ?_)
        refine rw_icmp rfl (fun h4 => ?_) (fun h4 => ?_)
        · have h4 : ¬ rr_addr (nI n) = B 29 r := rw_ne h4
          rw [if_neg h4] at hq
          refine rw_ret rfl rfl rfl ?_
          exact hq
        · have h4 : rr_addr (nI n) = B 29 r := rw_neF h4
          rw [if_pos h4] at hq
          repeat refine rw_step rfl rfl ?_
          refine rw_call rfl rfl rfl ?_
          refine rr_setToken hr ?_
          refine rw_ret rfl rfl rfl ?_
          exact hq
      · have h3 : B 21 r = 3 := rw_neF h3
        rw [if_pos h3] at hq
        repeat (first | refine rw_step rfl rfl ?_ | refine rr_ld rfl rfl rfl (by omega) rfl ?_)
        refine rw_icmp rfl (fun h4 => ?_) (fun h4 => ?_)
        · have h4 : ¬ rr_addr (nI n) = B 29 r := rw_ne h4
          rw [if_neg h4] at hq
          repeat (first | refine rw_step rfl rfl ?_ | refine rr_ld rfl rfl rfl (by omega) rfl ?_)
          refine rw_icmp rfl (fun h5 => ?_) (fun h5 => ?_)
          · rw [if_pos (of_decide_eq_true h5)] at hq
            refine rw_ret rfl rfl rfl ?_
            exact hq
          · rw [if_neg (of_decide_eq_false h5)] at hq
            repeat (first | refine rw_step rfl rfl ?_ | refine rr_st rfl (fun _ => rfl) rfl (by omega) rfl ?_)
            refine rw_ret rfl rfl rfl ?_
            exact hq
        · have h4 : rr_addr (nI n) = B 29 r := rw_neF h4
          rw [if_pos h4] at hq
          repeat (first | refine rw_step rfl rfl ?_ | refine rr_st rfl (fun _ => rfl) rfl (by omega) rfl ?_)
          refine rw_call rfl rfl rfl ?_
          refine rr_purgeM (d := d + 3) (A := rr_up B 30 r (rr_addr (nI n))) (m := n) hr hn (hpg h3 h4) hnr hmem ?_
          refine rw_step rfl rfl ?_
          refine rw_ret rfl rfl rfl ?_
          exact hq
    · have h2 : B 21 r = 2 := rw_neF h2
      rw [if_pos h2] at hq
      repeat refine rw_step rfl rfl ?_
      refine rw_call rfl rfl rfl ?_
      refine hfr h2 _ ?_
      refine rw_step rfl rfl ?_
      refine rw_ret rfl rfl rfl ?_
      exact hq
  · have h1 : B 21 r = 1 := rw_neF h1
    rw [rr_mv, if_pos h1] at hq
    repeat refine rw_step rfl rfl ?_
    refine rw_call rfl rfl rfl ?_
    refine htok h1 _ ?_
    refine rw_step rfl rfl ?_
    refine rw_ret rfl rfl rfl ?_
    exact hq
/-- a ring without nodes: nothing -/
theorem rr_move0 {r : Nat} (hr : r < 3) (h0 : A 1 r = 0) (hq : Q none (rr_h A t)) : rb_cw (d + 1) 62 [.ref 0, .int (nI r)] (rr_h A t) Q := by
  refine rw_ent rfl rfl rfl ?_
  repeat (first | refine rw_step rfl rfl ?_ | refine rr_ld rfl rfl rfl (by omega) rfl ?_)
  refine rw_if rfl (fun h1 => absurd h0 (rw_ne h1)) (fun _ => ?_)
  refine rw_ret rfl rfl rfl ?_
  exact hq
def rr_step (A : Nat → Nat → Int32) (r n : Nat) : Nat → Nat → Int32 := rr_up A 22 r (rr_rem (A 0 n + 1) (A 1 r))
set_option maxRecDepth 100000 in
/-- a signal goes on, over the node n where it is -/
theorem rr_moveGo {r n : Nat} {E G : Nat → Nat → Int32} (hr : r < 3) (hn : n < 15) (hmem : ¬ A 1 r = 0) (hsig : ¬ A 21 r = 0) (hat : rr_at A (nI r) (A 22 r) 15 = nI n) (hnr : A 3 n = nI r) (hpg : A 21 r = 3 → rr_addr (nI n) = A 29 r → rr_with (rr_up (rr_step A r n) 30 r (rr_addr (nI n))) (nI r) (rr_up (rr_step A r n) 30 r (rr_addr (nI n)) 30 r) 15 = nI n)
    (htok : A 21 r = 1 → ∀ Q' : Option Value → rb_H → Prop, Q' none (rr_h E t) → rb_cw (d + 6) 60 [.ref 0, .int (nI r), .int (nI n)] (rr_h (rr_step A r n) t) Q') (hfr : A 21 r = 2 → ∀ Q' : Option Value → rb_H → Prop, Q' none (rr_h G t) → rb_cw (d + 6) 61 [.ref 0, .int (nI r), .int (nI n)] (rr_h (rr_step A r n) t) Q')
    (hq : Q none (rr_h (rr_mv (rr_step A r n) r n E G) t)) : rb_cw (d + 7) 62 [.ref 0, .int (nI r)] (rr_h A t) Q := by
  refine rw_ent rfl rfl rfl ?_
  repeat (first | refine rw_step rfl rfl ?_ | refine rr_ld rfl rfl rfl (by omega) rfl ?_)
  refine rw_if rfl (fun _ => ?_) (fun h1 => absurd (rw_neF h1) hmem)
  repeat (first | refine rw_step rfl rfl ?_ | refine rr_ld rfl rfl rfl (by omega) rfl ?_)
  refine rw_if rfl (fun _ => ?_) (fun h1 => absurd (rw_neF h1) hsig)
  repeat (first | refine rw_step rfl rfl ?_ | refine rr_ld rfl rfl rfl (by omega) rfl ?_)
  refine rw_call rfl rfl rfl ?_
  refine rr_nodeAt ?_
  rw [hat]
  repeat refine rw_step rfl rfl ?_
  refine rw_call rfl rfl rfl ?_
  refine rr_addressOf ?_
  repeat refine rw_step rfl rfl ?_
  refine rw_call rfl rfl rfl ?_
  refine rr_behind (r := r) hn hnr hr hmem ?_
  refine rr_st rfl (fun _ => rfl) rfl (by omega) rfl ?_
  exact rr_mvM (B := rr_step A r n) hr hn hnr hmem hpg htok hfr hq
end RRO
end
section
/-! the reference: move in silence -/
section RRP
variable {d : Nat} {Q : Option Value → rb_H → Prop} {A : Nat → Nat → Int32} {t : Int32}
def rr_q1 (A : Nat → Nat → Int32) (r : Nat) : Nat → Nat → Int32 := rr_up A 23 r (A 23 r + 1)
def rr_q2 (A : Nat → Nat → Int32) (r : Nat) : Nat → Nat → Int32 := rr_up (rr_q1 A r) 23 r 0
def rr_quiet (A : Nat → Nat → Int32) (r l m : Nat) : Nat → Nat → Int32 :=
  if ¬ 6 ≤ rr_q1 A r 23 r then rr_q1 A r
  else if A 30 r = 0 then rr_up (rr_up (rr_up (rr_q2 A r) 21 r 3) 29 r (rr_addr (nI l))) 22 r (rr_rem (A 0 l + 1) (A 1 r))
  else rr_purge (rr_q2 A r) r m
set_option maxRecDepth 100000 in
theorem rr_moveQuiet {r l m : Nat} (hr : r < 3) (hmem : ¬ A 1 r = 0) (hsig : A 21 r = 0) (hl : 6 ≤ rr_q1 A r 23 r → A 30 r = 0 → l < 15 ∧ rr_at (rr_q2 A r) (nI r) 0 15 = nI l ∧ A 3 l = nI r) (hm : 6 ≤ rr_q1 A r 23 r → ¬ A 30 r = 0 → m < 15 ∧ rr_with (rr_q2 A r) (nI r) (A 30 r) 15 = nI m ∧ A 3 m = nI r) (hq : Q none (rr_h (rr_quiet A r l m) t)) : rb_cw (d + 4) 62 [.ref 0, .int (nI r)] (rr_h A t) Q := by
  refine rw_ent rfl rfl rfl ?_
  repeat (first | refine rw_step rfl rfl ?_ | refine rr_ld rfl rfl rfl (by omega) rfl ?_)
  refine rw_if rfl (fun _ => ?_) (fun h1 => absurd (rw_neF h1) hmem)
  repeat (first | refine rw_step rfl rfl ?_ | refine rr_ld rfl rfl rfl (by omega) rfl ?_)
  refine rw_if rfl (fun h1 => absurd hsig (rw_ne h1)) (fun _ => ?_)
  repeat (first | refine rw_step rfl rfl ?_ | refine rr_ld rfl rfl rfl (by omega) rfl ?_ | refine rr_st rfl (fun _ => rfl) rfl (by omega) rfl ?_)
  refine rw_icmp rfl (fun h1 => ?_) (fun h1 => ?_)
  · have h1 : 6 ≤ rr_q1 A r 23 r := of_decide_eq_true h1
    rw [rr_quiet, if_neg (fun h9 => h9 h1)] at hq
    repeat (first | refine rw_step rfl rfl ?_ | refine rr_st rfl (fun _ => rfl) rfl (by omega) rfl ?_)
    refine rw_call rfl rfl rfl ?_
    show rb_cw (d + 3) 48 [.ref 0, .int (nI r), .int 0] (rr_h (rr_q2 A r) t) _
    refine rr_nodeAt ?_
    repeat (first | refine rw_step rfl rfl ?_ | refine rr_ld rfl rfl rfl (by omega) rfl ?_)
    refine rw_if rfl (fun h2 => ?_) (fun h2 => ?_)
    · have h2 : A 30 r = 0 := rw_eq h2
      rw [if_pos h2] at hq
      obtain ⟨g1, g2, g3⟩ := hl h1 h2
      rw [g2]
      repeat (first | refine rw_step rfl rfl ?_ | refine rr_st rfl (fun _ => rfl) rfl (by omega) rfl ?_)
      refine rw_call rfl rfl rfl ?_
      refine rr_addressOf ?_
      refine rr_st rfl (fun _ => rfl) rfl (by omega) rfl ?_
      repeat refine rw_step rfl rfl ?_
      refine rw_call rfl rfl rfl ?_
      refine rr_behind (r := r) g1 g3 hr hmem ?_
      refine rr_st rfl (fun _ => rfl) rfl (by omega) rfl ?_
      refine rw_ret rfl rfl rfl ?_
      exact hq
    · have h2 : ¬ A 30 r = 0 := rw_eqF h2
      rw [if_neg h2] at hq
      obtain ⟨g1, g2, g3⟩ := hm h1 h2
      repeat refine rw_step rfl rfl ?_
      refine rw_call rfl rfl rfl ?_
      refine rr_purgeM (A := rr_q2 A r) (m := m) hr g1 g2 g3 hmem ?_
      refine rw_step rfl rfl ?_
      refine rw_ret rfl rfl rfl ?_
      exact hq
  · have h1 : ¬ 6 ≤ rr_q1 A r 23 r := of_decide_eq_false h1
    rw [rr_quiet, if_pos h1] at hq
    refine rw_ret rfl rfl rfl ?_
    exact hq
end RRP
end
section
/-! the reference: connect -/
section RRQ
variable {d : Nat} {Q : Option Value → rb_H → Prop} {A : Nat → Nat → Int32} {t : Int32}
def rr_dmake (B : Nat → Nat → Int32) (c s : Nat) : Nat → Nat → Int32 := rr_up (rr_up (rr_up (rr_up (rr_make B 2 (B 38 c) (B 36 c) (B 37 c) (B 39 c) (B 40 c)) 17 63 (nI c)) 18 63 (B 41 c)) 19 63 (rr_rem (B 42 c + B 43 c) 8)) 20 63 (B 45 (8 * c + s))
def rr_dsend (B : Nat → Nat → Int32) (c n s w : Nat) : Nat → Nat → Int32 := rr_up (rr_queue (rr_dmake B c s) n w) 43 c (nI (s + 1))
def rr_dloop (c n : Nat) : Nat → Nat → Nat → (Nat → Nat → Int32) → Nat → Nat → Int32
  | 0, _, _, B => B
  | f + 1, s, w, B => if (((B 35 c = 1 ∧ B 46 c = 0) ∧ ¬ 3 ≤ B 43 c) ∧ ¬ B 44 c ≤ B 43 c) ∧ ¬ 4 ≤ B 4 n then rr_dloop c n f (s + 1) (w + 1) (rr_dsend B c n s w) else B
set_option maxRecDepth 100000 in
theorem rr_dloopM {c n o : Nat} (hc : c < 4) (hn : n < 15) (ho8 : o ≤ 8) : ∀ (f s w : Nat) (B : Nat → Nat → Int32), s + f = 3 → B 43 c = nI s → B 44 c = nI o → B 4 n = nI w → w ≤ 4 → Q none (rr_h (rr_dloop c n f s w B) t) → rb_wp (d + 2) 67 104 [.ref 0, .int (nI c), .int (nI n)] [] (rr_h B t) Q := by
  intro f
  induction f with
  | zero =>
    intro s w B hf hs ho hw hw4 hq
    have h3 : s = 3 := by omega
    subst h3
    repeat (first | refine rw_step rfl rfl ?_ | refine rr_ld rfl rfl rfl (by omega) rfl ?_)
    refine rw_icmp rfl (fun _ => rw_ret rfl rfl rfl hq) (fun _ => ?_)
    repeat (first | refine rw_step rfl rfl ?_ | refine rr_ldz rfl rfl rfl (by omega) rfl ?_)
    refine rw_if rfl (fun _ => rw_ret rfl rfl rfl hq) (fun _ => ?_)
    repeat (first | refine rw_step rfl rfl ?_ | refine rr_ld rfl rfl rfl (by omega) rfl ?_)
    refine rw_icmp rfl (fun _ => rw_ret rfl rfl rfl hq) (fun h9 => absurd (of_decide_eq_false h9) (fun h8 => h8 (by rw [hs]; decide)))
  | succ f ih =>
    intro s w B hf hs ho hw hw4 hq
    have hs2 : s ≤ 2 := by omega
    repeat (first | refine rw_step rfl rfl ?_ | refine rr_ld rfl rfl rfl (by omega) rfl ?_)
    refine rw_icmp rfl (fun h1 => ?_) (fun h1 => ?_)
    · rw [rr_dloop, if_neg (fun h9 => rw_ne h1 h9.1.1.1.1)] at hq
      exact rw_ret rfl rfl rfl hq
    have h1 : B 35 c = 1 := rw_neF h1
    repeat (first | refine rw_step rfl rfl ?_ | refine rr_ldz rfl rfl rfl (by omega) rfl ?_)
    refine rw_if rfl (fun h2 => ?_) (fun h2 => ?_)
    · rw [rr_dloop, if_neg (fun h9 => rw_ne h2 h9.1.1.1.2)] at hq
      exact rw_ret rfl rfl rfl hq
    have h2 : B 46 c = 0 := rw_neF h2
    repeat (first | refine rw_step rfl rfl ?_ | refine rr_ld rfl rfl rfl (by omega) rfl ?_)
    refine rw_icmp rfl (fun h3 => ?_) (fun h3 => ?_)
    · rw [rr_dloop, if_neg (fun h9 => h9.1.1.2 (of_decide_eq_true h3))] at hq
      exact rw_ret rfl rfl rfl hq
    have h3 : ¬ 3 ≤ B 43 c := of_decide_eq_false h3
    repeat (first | refine rw_step rfl rfl ?_ | refine rr_ld rfl rfl rfl (by omega) rfl ?_)
    refine rw_icmp rfl (fun h4 => ?_) (fun h4 => ?_)
    · rw [rr_dloop, if_neg (fun h9 => h9.1.2 (of_decide_eq_true h4))] at hq
      exact rw_ret rfl rfl rfl hq
    have h4 : ¬ B 44 c ≤ B 43 c := of_decide_eq_false h4
    repeat (first | refine rw_step rfl rfl ?_ | refine rr_ld rfl rfl rfl (by omega) rfl ?_)
    refine rw_icmp rfl (fun h5 => ?_) (fun h5 => ?_)
    · rw [rr_dloop, if_neg (fun h9 => h9.2 (of_decide_eq_true h5))] at hq
      exact rw_ret rfl rfl rfl hq
    have h5 : ¬ 4 ≤ B 4 n := of_decide_eq_false h5
    rw [rr_dloop, if_pos ⟨⟨⟨⟨h1, h2⟩, h3⟩, h4⟩, h5⟩] at hq
    have hw3 : w < 4 := by
      refine Nat.lt_of_le_of_ne hw4 (fun h9 => h5 ?_)
      subst h9
      rw [hw]
      decide
    have e1 : (8 : Int32) * nI c + B 43 c = nI (8 * c + s) := by rw [rr_c8, hs, nI_add]
    repeat (first | refine rw_step rfl rfl ?_ | refine rr_ld rfl rfl rfl (by omega) rfl ?_)
    refine rw_call rfl rfl rfl ?_
    refine rr_makeFrame ?_
    repeat (first | refine rr_st (i := 63) rfl (fun _ => rfl) rfl (by omega) rfl ?_ | refine rw_step rfl rfl ?_ | refine rr_ld rfl rfl rfl (by omega) rfl ?_)
    refine rr_ld (i := 8 * c + s) rfl rfl e1 (by omega) rfl ?_
    refine rr_st (i := 63) rfl (fun _ => rfl) rfl (by omega) rfl ?_
    repeat refine rw_step rfl rfl ?_
    refine rw_call rfl rfl rfl ?_
    show rb_cw (d + 2) 54 [.ref 0, .int (nI n)] (rr_h (rr_dmake B c s) t) _
    refine rr_queueNew (w := w) hn hw hw4 ?_
    have e2 : rr_queue (rr_dmake B c s) n w 43 c = nI s := by
      rw [rr_queue, if_neg (by omega)]
      show rr_copy (rr_dmake B c s) 63 (4 * n + w) 43 c = nI s
      rw [rr_copy_lo (by omega)]
      exact hs
    repeat (first | refine rw_step rfl rfl ?_ | refine rr_ld rfl rfl rfl (by omega) rfl ?_)
    refine rr_st rfl (fun _ => rfl) rfl (by omega) rfl ?_
    dsimp only
    rw [e2, nI_1]
    refine rw_step rfl rfl ?_
    refine ih (s + 1) (w + 1) (rr_dsend B c n s w) (by omega) (rr_up_same _ _ _ _) ?_ ?_ (by omega) hq
    · show rr_queue (rr_dmake B c s) n w 44 c = nI o
      rw [rr_queue, if_neg (by omega)]
      show rr_copy (rr_dmake B c s) 63 (4 * n + w) 44 c = nI o
      rw [rr_copy_lo (by omega)]
      exact ho
    · show rr_queue (rr_dmake B c s) n w 4 n = nI (w + 1)
      rw [rr_queue, if_neg (by omega)]
      exact rr_up_same _ _ _ _
end RRQ
end
section
/-! the reference: connect, its timer -/
section RRR
variable {d : Nat} {Q : Option Value → rb_H → Prop} {A : Nat → Nat → Int32} {t : Int32}
def rr_t1 (A : Nat → Nat → Int32) (c : Nat) : Nat → Nat → Int32 := rr_up A 47 c (if 0 < A 43 c ∨ ¬ A 46 c = 0 then A 47 c + 1 else 0)
def rr_t3 (B : Nat → Nat → Int32) (c : Nat) : Nat → Nat → Int32 := rr_up (rr_up (rr_up (rr_up B 48 c (B 48 c + 1)) 47 c 0) 43 c 0) 46 c 0
def rr_t2 (B : Nat → Nat → Int32) (c : Nat) : Nat → Nat → Int32 := if B 47 c = 60 then (if rr_t3 B c 48 c = 4 then rr_up (rr_t3 B c) 35 c 2 else rr_t3 B c) else B
theorem rr_connTail {D : Nat → Nat → Int32} {c n s o w : Nat} {x2 : Value} (hc : c < 4) (hn : n < 15) (hfrom : D 36 c = nI (n + 1)) (hs : D 43 c = nI s) (hs3 : s ≤ 3) (ho : D 44 c = nI o) (ho8 : o ≤ 8) (hw : D 4 n = nI w) (hw4 : w ≤ 4) (hq : Q none (rr_h (rr_dloop c n (3 - s) s w D) t)) : rb_wp (d + 2) 67 95 [.ref 0, .int (nI c), x2] [] (rr_h D t) Q := by
  refine rw_step rfl rfl ?_
  refine rw_step rfl rfl ?_
  refine rw_step rfl rfl ?_
  refine rr_ld rfl rfl rfl (by omega) rfl ?_
  refine rw_step rfl rfl ?_
  refine rw_step rfl rfl ?_
  refine rw_step rfl rfl ?_
  have e1 : D 36 c - 1 = nI n := by rw [hfrom]; exact nI_pred n
  show rb_wp (d + 2) 67 104 [.ref 0, .int (nI c), .int (D 36 c - 1)] [] (rr_h D t) Q
  rw [e1]
  exact rr_dloopM hc hn ho8 (3 - s) s w D (by omega) hs ho hw hw4 hq
theorem rr_connMid {B : Nat → Nat → Int32} {c n s o w : Nat} {x2 : Value} (hc : c < 4) (hn : n < 15) (hfrom : rr_t2 B c 36 c = nI (n + 1)) (hs : rr_t2 B c 43 c = nI s) (hs3 : s ≤ 3) (ho : rr_t2 B c 44 c = nI o) (ho8 : o ≤ 8) (hw : rr_t2 B c 4 n = nI w) (hw4 : w ≤ 4) (hq : Q none (rr_h (rr_dloop c n (3 - s) s w (rr_t2 B c)) t)) : rb_wp (d + 2) 67 36 [.ref 0, .int (nI c), x2] [] (rr_h B t) Q := by
  repeat (first | refine rw_step rfl rfl ?_ | refine rr_ld rfl rfl rfl (by omega) rfl ?_)
  refine rw_icmp rfl (fun h1 => ?_) (fun h1 => ?_)
  · have h1 : ¬ B 47 c = 60 := rw_ne h1
    rw [rr_t2, if_neg h1] at hfrom hs ho hw hq
    exact rr_connTail hc hn hfrom hs hs3 ho ho8 hw hw4 hq
  · have h1 : B 47 c = 60 := rw_neF h1
    rw [rr_t2, if_pos h1] at hfrom hs ho hw hq
    repeat (first | refine rw_step rfl rfl ?_ | refine rr_ld rfl rfl rfl (by omega) rfl ?_ | refine rr_st rfl (fun _ => rfl) rfl (by omega) rfl ?_ | refine rr_stz rfl rfl (fun _ => rfl) rfl (by omega) rfl ?_)
    refine rw_icmp rfl (fun h2 => ?_) (fun h2 => ?_)
    · have h2 : ¬ rr_t3 B c 48 c = 4 := rw_ne h2
      rw [if_neg h2] at hfrom hs ho hw hq
      exact rr_connTail (D := rr_t3 B c) hc hn hfrom hs hs3 ho ho8 hw hw4 hq
    · have h2 : rr_t3 B c 48 c = 4 := rw_neF h2
      rw [if_pos h2] at hfrom hs ho hw hq
      refine rw_step rfl rfl ?_
      refine rw_step rfl rfl ?_
      refine rw_step rfl rfl ?_
      refine rw_step rfl rfl ?_
      refine rr_st rfl (fun _ => rfl) rfl (by omega) rfl ?_
      exact rr_connTail (D := rr_up (rr_t3 B c) 35 c 2) hc hn hfrom hs hs3 ho ho8 hw hw4 hq
def rr_conn (A : Nat → Nat → Int32) (c n s w : Nat) : Nat → Nat → Int32 := rr_dloop c n (3 - s) s w (rr_t2 (rr_t1 A c) c)
theorem rr_connect {c n s o w : Nat} (hc : c < 4) (hn : n < 15) (hfrom : rr_t2 (rr_t1 A c) c 36 c = nI (n + 1)) (hs : rr_t2 (rr_t1 A c) c 43 c = nI s) (hs3 : s ≤ 3) (ho : rr_t2 (rr_t1 A c) c 44 c = nI o) (ho8 : o ≤ 8) (hw : rr_t2 (rr_t1 A c) c 4 n = nI w) (hw4 : w ≤ 4) (hq : Q none (rr_h (rr_conn A c n s w) t)) : rb_cw (d + 3) 67 [.ref 0, .int (nI c)] (rr_h A t) Q := by
  refine rw_ent rfl rfl rfl ?_
  repeat (first | refine rw_step rfl rfl ?_ | refine rr_ld rfl rfl rfl (by omega) rfl ?_)
  have up : (0 < A 43 c ∨ ¬ A 46 c = 0) → rb_wp (d + 2) 67 23 [.ref 0, .int (nI c), .retAddr 0] [.int (nI c), .ref 48] (rr_h A t) Q := by
    intro h9
    have e1 : rr_t1 A c = rr_up A 47 c (A 47 c + 1) := by rw [rr_t1, if_pos h9]
    rw [rr_conn] at hq
    rw [e1] at hfrom hs ho hw hq
    refine rw_step rfl rfl ?_
    refine rw_step rfl rfl ?_
    refine rw_step rfl rfl ?_
    refine rr_ld rfl rfl rfl (by omega) rfl ?_
    refine rw_step rfl rfl ?_
    refine rw_step rfl rfl ?_
    refine rw_step rfl rfl ?_
    refine rr_st rfl (fun _ => rfl) rfl (by omega) rfl ?_
    exact rr_connMid hc hn hfrom hs hs3 ho ho8 hw hw4 hq
  refine rw_if rfl (fun h1 => up (Or.inl (of_decide_eq_true h1))) (fun h1 => ?_)
  repeat (first | refine rw_step rfl rfl ?_ | refine rr_ldz rfl rfl rfl (by omega) rfl ?_)
  refine rw_if rfl (fun h2 => ?_) (fun h2 => up (Or.inr (rw_eqF h2)))
  have h0 : ¬ (0 < A 43 c ∨ ¬ A 46 c = 0) := fun h9 => h9.elim (of_decide_eq_false h1) (fun h8 => h8 (rw_eq h2))
  have e1 : rr_t1 A c = rr_up A 47 c 0 := by rw [rr_t1, if_neg h0]
  rw [rr_conn] at hq
  rw [e1] at hfrom hs ho hw hq
  refine rw_step rfl rfl ?_
  refine rr_st rfl (fun _ => rfl) rfl (by omega) rfl ?_
  exact rr_connMid hc hn hfrom hs hs3 ho ho8 hw hw4 hq
end RRR
end
section
/-! the reference: at, monitor, close -/
theorem rr_ring3 {x : Int32} (h : 0 ≤ x ∧ x ≤ 2) : ∃ r : Nat, r < 3 ∧ x = nI r := by
  obtain ⟨j, hj, rfl⟩ := nI_of2 (M := 2) (n := 2) (by decide) (Int32.not_lt.mpr h.1) h.2
  exact ⟨j, by omega, rfl⟩
theorem rr_link4 {x : Int32} (h : 0 ≤ x ∧ x ≤ 3) : ∃ c : Nat, c < 4 ∧ x = nI c := by
  obtain ⟨j, hj, rfl⟩ := nI_of2 (M := 3) (n := 3) (by decide) (Int32.not_lt.mpr h.1) h.2
  exact ⟨j, by omega, rfl⟩
theorem rr_u3 {r : Nat} (h : r < 3) : (nI r).toNatClampNeg = r := nI_clamp (by omega)
theorem rr_u4 {r : Nat} (h : r < 4) : (nI r).toNatClampNeg = r := nI_clamp (by omega)
section RRS
variable {d : Nat} {Q : Option Value → rb_H → Prop} {A : Nat → Nat → Int32} {t : Int32}
def rr_atA (A : Nat → Nat → Int32) (x : Int32) : Int32 := if 0 ≤ x ∧ x ≤ 2 then (if A 21 x.toNatClampNeg = 0 then -1 else A 22 x.toNatClampNeg) else -1
theorem rr_atM {x : Int32} (hq : Q (some (.int (rr_atA A x))) (rr_h A t)) : rb_cw (d + 2) 83 [.ref 0, .int x] (rr_h A t) Q := by
  refine rw_ent rfl rfl rfl ?_
  refine rw_step rfl rfl ?_
  refine rw_call rfl rfl rfl ?_
  refine rr_isRing ?_
  by_cases hx : 0 ≤ x ∧ x ≤ 2
  · rw [rr_atA, if_pos hx] at hq
    rw [if_pos hx]
    obtain ⟨r, hr, rfl⟩ := rr_ring3 hx
    rw [rr_u3 hr] at hq
    refine rw_if rfl (fun h9 => absurd (rw_eq h9) (by decide)) (fun _ => ?_)
    repeat (first | refine rw_step rfl rfl ?_ | refine rr_ld rfl rfl rfl (by omega) rfl ?_)
    refine rw_if rfl (fun h1 => ?_) (fun h1 => ?_)
    · rw [if_neg (rw_ne h1)] at hq
      repeat (first | refine rw_step rfl rfl ?_ | refine rr_ld rfl rfl rfl (by omega) rfl ?_)
      exact rw_ret rfl rfl rfl hq
    · rw [if_pos (rw_neF h1)] at hq
      repeat refine rw_step rfl rfl ?_
      exact rw_ret rfl rfl rfl hq
  · rw [rr_atA, if_neg hx] at hq
    rw [if_neg hx]
    refine rw_if rfl (fun _ => ?_) (fun h9 => absurd rfl (rw_eqF h9))
    repeat refine rw_step rfl rfl ?_
    exact rw_ret rfl rfl rfl hq
def rr_monA (A : Nat → Nat → Int32) (x : Int32) : Int32 := if 0 ≤ x ∧ x ≤ 2 then A 30 x.toNatClampNeg else -1
theorem rr_monM {x : Int32} (hq : Q (some (.int (rr_monA A x))) (rr_h A t)) : rb_cw (d + 2) 84 [.ref 0, .int x] (rr_h A t) Q := by
  refine rw_ent rfl rfl rfl ?_
  refine rw_step rfl rfl ?_
  refine rw_call rfl rfl rfl ?_
  refine rr_isRing ?_
  by_cases hx : 0 ≤ x ∧ x ≤ 2
  · rw [rr_monA, if_pos hx] at hq
    rw [if_pos hx]
    obtain ⟨r, hr, rfl⟩ := rr_ring3 hx
    rw [rr_u3 hr] at hq
    refine rw_if rfl (fun h9 => absurd (rw_eq h9) (by decide)) (fun _ => ?_)
    repeat (first | refine rw_step rfl rfl ?_ | refine rr_ld rfl rfl rfl (by omega) rfl ?_)
    exact rw_ret rfl rfl rfl hq
  · rw [rr_monA, if_neg hx] at hq
    rw [if_neg hx]
    refine rw_if rfl (fun _ => ?_) (fun h9 => absurd rfl (rw_eqF h9))
    repeat refine rw_step rfl rfl ?_
    exact rw_ret rfl rfl rfl hq
def rr_closeA (A : Nat → Nat → Int32) (x : Int32) : Int32 × (Nat → Nat → Int32) := if 0 ≤ x ∧ x ≤ 3 then (if A 35 x.toNatClampNeg = 0 then (0, A) else (1, rr_up A 35 x.toNatClampNeg 0)) else (0, A)
theorem rr_closeM {x : Int32} (hq : Q (some (.int (rr_closeA A x).1)) (rr_h (rr_closeA A x).2 t)) : rb_cw (d + 2) 79 [.ref 0, .int x] (rr_h A t) Q := by
  refine rw_ent rfl rfl rfl ?_
  refine rw_step rfl rfl ?_
  refine rw_call rfl rfl rfl ?_
  refine rr_isConnection ?_
  by_cases hx : 0 ≤ x ∧ x ≤ 3
  · rw [rr_closeA, if_pos hx] at hq
    rw [if_pos hx]
    obtain ⟨c, hc, rfl⟩ := rr_link4 hx
    rw [rr_u4 hc] at hq
    refine rw_if rfl (fun h9 => absurd (rw_eq h9) (by decide)) (fun _ => ?_)
    repeat (first | refine rw_step rfl rfl ?_ | refine rr_ld rfl rfl rfl (by omega) rfl ?_)
    refine rw_if rfl (fun h1 => ?_) (fun h1 => ?_)
    · rw [if_neg (rw_ne h1)] at hq
      repeat (first | refine rw_step rfl rfl ?_ | refine rr_st rfl (fun _ => rfl) rfl (by omega) rfl ?_)
      exact rw_ret rfl rfl rfl hq
    · rw [if_pos (rw_neF h1)] at hq
      repeat refine rw_step rfl rfl ?_
      exact rw_ret rfl rfl rfl hq
  · rw [rr_closeA, if_neg hx] at hq
    rw [if_neg hx]
    refine rw_if rfl (fun _ => ?_) (fun h9 => absurd rfl (rw_eqF h9))
    repeat refine rw_step rfl rfl ?_
    exact rw_ret rfl rfl rfl hq
end RRS
end
section
/-! the reference: go -/
section RRT
variable {d : Nat} {Q : Option Value → rb_H → Prop} {A : Nat → Nat → Int32} {t : Int32}
def rr_g5 (B : Nat → Nat → Int32) (r n : Nat) : Nat → Nat → Int32 := if (B 21 r = 3 ∨ B 21 r = 4) ∧ B 29 r = rr_addr (nI n) then rr_up (rr_up B 21 r 0) 23 r 0 else B
theorem rr_g5M {B : Nat → Nat → Int32} {r n : Nat} {x3 x4 : Value} (hr : r < 3) (hq : Q none (rr_h (rr_g5 B r n) t)) : rb_wp (d + 1) 71 210 [.ref 0, .int (nI n), .int (nI r), x3, x4] [] (rr_h B t) Q := by
  have tail : (B 21 r = 3 ∨ B 21 r = 4) → rb_wp (d + 1) 71 230 [.ref 0, .int (nI n), .int (nI r), x3, x4] [] (rr_h B t) Q := by
    intro h9
    repeat (first | refine rw_step rfl rfl ?_ | refine rr_ld rfl rfl rfl (by omega) rfl ?_)
    refine rw_call rfl rfl rfl ?_
    refine rr_addressOf ?_
    refine rw_icmp rfl (fun h1 => ?_) (fun h1 => ?_)
    · rw [rr_g5, if_neg (fun h8 => rw_ne h1 h8.2)] at hq
      exact rw_ret rfl rfl rfl hq
    · rw [rr_g5, if_pos ⟨h9, rw_neF h1⟩] at hq
      repeat (first | refine rw_step rfl rfl ?_ | refine rr_st rfl (fun _ => rfl) rfl (by omega) rfl ?_)
      exact rw_ret rfl rfl rfl hq
  repeat (first | refine rw_step rfl rfl ?_ | refine rr_ld rfl rfl rfl (by omega) rfl ?_)
  refine rw_icmp rfl (fun h1 => tail (Or.inl (rw_eq h1))) (fun h1 => ?_)
  repeat (first | refine rw_step rfl rfl ?_ | refine rr_ld rfl rfl rfl (by omega) rfl ?_)
  refine rw_icmp rfl (fun h2 => ?_) (fun h2 => tail (Or.inr (rw_neF h2)))
  rw [rr_g5, if_neg (fun h8 => h8.1.elim (rw_eqF h1) (rw_ne h2))] at hq
  exact rw_ret rfl rfl rfl hq
def rr_g4 (B : Nat → Nat → Int32) (r n : Nat) : Nat → Nat → Int32 := rr_up B 30 r (if B 30 r = rr_addr (nI n) then 0 else B 30 r)
theorem rr_g4M {B : Nat → Nat → Int32} {r n : Nat} {x3 x4 : Value} (hr : r < 3) (hq : Q none (rr_h (rr_g5 (rr_g4 B r n) r n) t)) : rb_wp (d + 1) 71 181 [.ref 0, .int (nI n), .int (nI r), x3, x4] [] (rr_h B t) Q := by
  repeat (first | refine rw_step rfl rfl ?_ | refine rr_ld rfl rfl rfl (by omega) rfl ?_)
  refine rw_call rfl rfl rfl ?_
  refine rr_addressOf ?_
  refine rw_icmp rfl (fun h1 => ?_) (fun h1 => ?_)
  · rw [rr_g4, if_neg (rw_ne h1)] at hq
    refine rw_step rfl rfl ?_
    refine rw_step rfl rfl ?_
    refine rw_step rfl rfl ?_
    refine rr_ld rfl rfl rfl (by omega) rfl ?_
    refine rr_st rfl (fun _ => rfl) rfl (by omega) rfl ?_
    exact rr_g5M hr hq
  · rw [rr_g4, if_pos (rw_neF h1)] at hq
    refine rw_step rfl rfl ?_
    refine rw_step rfl rfl ?_
    refine rr_st rfl (fun _ => rfl) rfl (by omega) rfl ?_
    exact rr_g5M hr hq
def rr_g3 (B : Nat → Nat → Int32) (r : Nat) : Nat → Nat → Int32 := if B 1 r = 0 then rr_up (rr_up B 21 r 0) 23 r 0 else B
theorem rr_g3M {B : Nat → Nat → Int32} {r n : Nat} {x3 x4 : Value} (hr : r < 3) (hq : Q none (rr_h (rr_g5 (rr_g4 (rr_g3 B r) r n) r n) t)) : rb_wp (d + 1) 71 158 [.ref 0, .int (nI n), .int (nI r), x3, x4] [] (rr_h B t) Q := by
  repeat (first | refine rw_step rfl rfl ?_ | refine rr_ld rfl rfl rfl (by omega) rfl ?_)
  refine rw_if rfl (fun h1 => ?_) (fun h1 => ?_)
  · rw [rr_g3, if_neg (rw_ne h1)] at hq
    exact rr_g4M hr hq
  · rw [rr_g3, if_pos (rw_neF h1)] at hq
    refine rw_step rfl rfl ?_
    refine rw_step rfl rfl ?_
    refine rw_step rfl rfl ?_
    refine rw_step rfl rfl ?_
    refine rr_st rfl (fun _ => rfl) rfl (by omega) rfl ?_
    refine rw_step rfl rfl ?_
    refine rw_step rfl rfl ?_
    refine rw_step rfl rfl ?_
    refine rw_step rfl rfl ?_
    refine rr_st rfl (fun _ => rfl) rfl (by omega) rfl ?_
    exact rr_g4M hr hq
def rr_g2 (B : Nat → Nat → Int32) (r : Nat) : Nat → Nat → Int32 := if B 1 r ≤ 0 then B else rr_up B 22 r (rr_rem (B 22 r) (B 1 r))
theorem rr_g2M {B : Nat → Nat → Int32} {r n : Nat} {x3 x4 : Value} (hr : r < 3) (hq : Q none (rr_h (rr_g5 (rr_g4 (rr_g3 (rr_g2 B r) r) r n) r n) t)) : rb_wp (d + 1) 71 130 [.ref 0, .int (nI n), .int (nI r), x3, x4] [] (rr_h B t) Q := by
  repeat (first | refine rw_step rfl rfl ?_ | refine rr_ld rfl rfl rfl (by omega) rfl ?_)
  refine rw_if rfl (fun h1 => ?_) (fun h1 => ?_)
  · rw [rr_g2, if_pos (of_decide_eq_true h1)] at hq
    exact rr_g3M hr hq
  · have h2 : ¬ B 1 r ≤ 0 := of_decide_eq_false h1
    rw [rr_g2, if_neg h2] at hq
    repeat (first | refine rw_step rfl rfl ?_ | refine rr_ld rfl rfl rfl (by omega) rfl ?_)
    refine rw_rem rfl (fun h9 => h2 (by rw [h9]; decide)) ?_
    refine rr_st rfl (fun _ => rfl) rfl (by omega) rfl ?_
    exact rr_g3M hr hq
def rr_g1 (B : Nat → Nat → Int32) (r : Nat) (p : Int32) : Nat → Nat → Int32 := rr_up B 22 r (if B 22 r ≤ p then B 22 r else B 22 r - 1)
theorem rr_g1M {B : Nat → Nat → Int32} {r n : Nat} {p : Int32} {x4 : Value} (hr : r < 3) (hq : Q none (rr_h (rr_g5 (rr_g4 (rr_g3 (rr_g2 (rr_g1 B r p) r) r) r n) r n) t)) : rb_wp (d + 1) 71 97 [.ref 0, .int (nI n), .int (nI r), .int p, x4] [] (rr_h B t) Q := by
  repeat (first | refine rw_step rfl rfl ?_ | refine rr_ld rfl rfl rfl (by omega) rfl ?_)
  refine rw_icmp rfl (fun h1 => ?_) (fun h1 => ?_)
  · rw [rr_g1, if_pos (of_decide_eq_true h1)] at hq
    refine rw_step rfl rfl ?_
    refine rw_step rfl rfl ?_
    refine rw_step rfl rfl ?_
    refine rr_ld rfl rfl rfl (by omega) rfl ?_
    refine rr_st rfl (fun _ => rfl) rfl (by omega) rfl ?_
    exact rr_g2M hr hq
  · rw [rr_g1, if_neg (of_decide_eq_false h1)] at hq
    refine rw_step rfl rfl ?_
    refine rw_step rfl rfl ?_
    refine rw_step rfl rfl ?_
    refine rr_ld rfl rfl rfl (by omega) rfl ?_
    refine rw_step rfl rfl ?_
    refine rw_step rfl rfl ?_
    refine rw_step rfl rfl ?_
    refine rr_st rfl (fun _ => rfl) rfl (by omega) rfl ?_
    exact rr_g2M hr hq
end RRT
end
section
/-! the reference: go whole, isStation -/
section RRU
variable {d : Nat} {Q : Option Value → rb_H → Prop} {A : Nat → Nat → Int32} {t : Int32}
def rr_goL (B : Nat → Nat → Int32) (r p : Int32) : Nat → Nat → Nat → Int32
  | 0 => B
  | m + 1 => if (¬ rr_goL B r p m 2 m = 0 ∧ rr_goL B r p m 3 m = r) ∧ ¬ rr_goL B r p m 0 m ≤ p then rr_up (rr_goL B r p m) 0 m (rr_goL B r p m 0 m - 1) else rr_goL B r p m
def rr_gEnd (B : Nat → Nat → Int32) (r n : Nat) (p : Int32) : Nat → Nat → Int32 := rr_g5 (rr_g4 (rr_g3 (rr_g2 (rr_g1 B r p) r) r) r n) r n
theorem rr_goLoop {B : Nat → Nat → Int32} {r n : Nat} {p : Int32} (hr : r < 3) (hq : Q none (rr_h (rr_gEnd (rr_goL B (nI r) p 15) r n p) t)) : ∀ (f m : Nat) (x : Int32), m + f = 15 → x = nI m → rb_wp (d + 1) 71 41 [.ref 0, .int (nI n), .int (nI r), .int p, .int x] [] (rr_h (rr_goL B (nI r) p m) t) Q := by
  intro f
  induction f with
  | zero =>
    intro m x hf hx
    have hm : m = 15 := by omega
    subst hm hx
    refine rw_step rfl rfl ?_
    refine rw_step rfl rfl ?_
    refine rw_icmp rfl (fun _ => rr_g1M hr hq) (fun hc => absurd hc (by decide))
  | succ f ih =>
    intro m x hf hx
    subst hx
    have hm : m < 15 := by omega
    refine rw_step rfl rfl ?_
    refine rw_step rfl rfl ?_
    have hlt : ¬ (15 : Int32) ≤ nI m := nI_ge (a := m) (b := 15) hm (by omega)
    refine rw_icmp rfl (fun hc => absurd (of_decide_eq_true hc) hlt) (fun _ => ?_)
    have nxt : ∀ C : Nat → Nat → Int32, C = rr_goL B (nI r) p (m + 1) → rb_wp (d + 1) 71 91 [.ref 0, .int (nI n), .int (nI r), .int p, .int (nI m)] [] (rr_h C t) Q := by
      intro C hC
      subst hC
      refine rw_step rfl rfl ?_
      refine rw_step rfl rfl ?_
      exact ih (m + 1) (nI m + 1) (by omega) (nI_1 m)
    repeat (first | refine rw_step rfl rfl ?_ | refine rr_ldz rfl rfl rfl (by omega) rfl ?_)
    refine rw_if rfl (fun h1 => nxt _ ?_) (fun h1 => ?_)
    · rw [rr_goL, if_neg (fun h9 => h9.1.1 (rw_eq h1))]
    repeat (first | refine rw_step rfl rfl ?_ | refine rr_ld rfl rfl rfl (by omega) rfl ?_)
    refine rw_icmp rfl (fun h2 => nxt _ ?_) (fun h2 => ?_)
    · rw [rr_goL, if_neg (fun h9 => rw_ne h2 h9.1.2)]
    repeat (first | refine rw_step rfl rfl ?_ | refine rr_ld rfl rfl rfl (by omega) rfl ?_)
    refine rw_icmp rfl (fun h3 => nxt _ ?_) (fun h3 => ?_)
    · rw [rr_goL, if_neg (fun h9 => h9.2 (of_decide_eq_true h3))]
    refine rw_step rfl rfl ?_
    refine rw_step rfl rfl ?_
    refine rw_step rfl rfl ?_
    refine rw_step rfl rfl ?_
    refine rr_ld rfl rfl rfl (by omega) rfl ?_
    refine rw_step rfl rfl ?_
    refine rw_step rfl rfl ?_
    refine rr_st rfl (fun _ => rfl) rfl (by omega) rfl ?_
    refine nxt _ ?_
    rw [rr_goL, if_pos ⟨⟨rw_eqF h1, rw_neF h2⟩, of_decide_eq_false h3⟩]
def rr_go0 (A : Nat → Nat → Int32) (r n : Nat) : Nat → Nat → Int32 := rr_up (rr_up (rr_up A 2 n 0) 1 r (A 1 r - 1)) 4 n 0
def rr_go (A : Nat → Nat → Int32) (r n : Nat) : Nat → Nat → Int32 := rr_gEnd (rr_goL (rr_go0 A r n) (nI r) (A 0 n) 15) r n (A 0 n)
theorem rr_goM {r n : Nat} (hr : r < 3) (hn : n < 15) (hnr : A 3 n = nI r) (hq : Q none (rr_h (rr_go A r n) t)) : rb_cw (d + 2) 71 [.ref 0, .int (nI n)] (rr_h A t) Q := by
  refine rw_ent rfl rfl rfl ?_
  refine rw_step rfl rfl ?_
  refine rw_step rfl rfl ?_
  refine rw_step rfl rfl ?_
  refine rr_ld rfl rfl rfl (by omega) rfl ?_
  rw [hnr]
  repeat (first | refine rw_step rfl rfl ?_ | refine rr_ld rfl rfl rfl (by omega) rfl ?_ | refine rr_stz rfl rfl (fun _ => rfl) rfl (by omega) rfl ?_)
  refine rr_st rfl (fun _ => rfl) rfl (by omega) rfl ?_
  refine rw_step rfl rfl ?_
  refine rw_step rfl rfl ?_
  refine rw_step rfl rfl ?_
  refine rw_step rfl rfl ?_
  refine rr_st rfl (fun _ => rfl) rfl (by omega) rfl ?_
  refine rw_step rfl rfl ?_
  refine rw_step rfl rfl ?_
  exact rr_goLoop (B := rr_go0 A r n) hr hq 15 0 0 rfl rfl
def rr_isSt (A : Nat → Nat → Int32) (x : Int32) : Int32 := if (1 ≤ x ∧ x ≤ 9) ∧ ¬ A 2 (x - 1).toNatClampNeg = 0 then 1 else 0
theorem rr_addr9 {x : Int32} (h : 1 ≤ x ∧ x ≤ 9) : ∃ n : Nat, n < 9 ∧ x = nI (n + 1) := by
  obtain ⟨j, hj, rfl⟩ := nI_of2 (M := 9) (n := 9) (x := x) (by decide) (Int32.not_lt.mpr (Int32.le_trans (by decide) h.1)) h.2
  cases j with
  | zero => exact absurd h.1 (by decide)
  | succ j => exact ⟨j, by omega, rfl⟩
theorem rr_isStation {x : Int32} (hq : Q (some (.int (rr_isSt A x))) (rr_h A t)) : rb_cw (d + 2) 47 [.ref 0, .int x] (rr_h A t) Q := by
  refine rw_ent rfl rfl rfl ?_
  refine rw_step rfl rfl ?_
  refine rw_call rfl rfl rfl ?_
  refine rr_isAddress ?_
  by_cases hx : 1 ≤ x ∧ x ≤ 9
  · rw [if_pos hx]
    obtain ⟨n, hn, rfl⟩ := rr_addr9 hx
    have e1 : nI (n + 1) - 1 = nI n := nI_pred n
    have e2 : (nI (n + 1) - 1).toNatClampNeg = n := by rw [e1]; exact nI_clamp (by omega)
    refine rw_if rfl (fun h9 => absurd (rw_eq h9) (by decide)) (fun _ => ?_)
    repeat refine rw_step rfl rfl ?_
    refine rr_ldz (i := n) rfl rfl e1 (by omega) rfl ?_
    refine rw_if rfl (fun h1 => ?_) (fun h1 => ?_)
    · rw [rr_isSt, e2, if_neg (fun h9 => h9.2 (rw_eq h1))] at hq
      repeat refine rw_step rfl rfl ?_
      exact rw_ret rfl rfl rfl hq
    · rw [rr_isSt, e2, if_pos ⟨hx, rw_eqF h1⟩] at hq
      repeat refine rw_step rfl rfl ?_
      exact rw_ret rfl rfl rfl hq
  · rw [if_neg hx]
    rw [rr_isSt, if_neg (fun h9 => hx h9.1)] at hq
    refine rw_if rfl (fun _ => ?_) (fun h9 => absurd rfl (rw_eqF h9))
    repeat refine rw_step rfl rfl ?_
    exact rw_ret rfl rfl rfl hq
end RRU
end
section
/-! the reference: join, damage -/
section RRV
variable {d : Nat} {Q : Option Value → rb_H → Prop} {A : Nat → Nat → Int32} {t : Int32}
def rr_joinA (A : Nat → Nat → Int32) (x y : Int32) : Int32 × (Nat → Nat → Int32) := if (((0 ≤ x ∧ x ≤ 2) ∧ (1 ≤ y ∧ y ≤ 9)) ∧ A 2 (y - 1).toNatClampNeg = 0) ∧ ¬ A 1 x.toNatClampNeg = 5 then (1, rr_come A (y - 1).toNatClampNeg x.toNatClampNeg) else (0, A)
theorem rr_joinM {x y : Int32} (hq : Q (some (.int (rr_joinA A x y).1)) (rr_h (rr_joinA A x y).2 t)) : rb_cw (d + 3) 69 [.ref 0, .int x, .int y] (rr_h A t) Q := by
  refine rw_ent rfl rfl rfl ?_
  refine rw_step rfl rfl ?_
  refine rw_call rfl rfl rfl ?_
  refine rr_isRing ?_
  have no : (¬ ((((0 ≤ x ∧ x ≤ 2) ∧ (1 ≤ y ∧ y ≤ 9)) ∧ A 2 (y - 1).toNatClampNeg = 0) ∧ ¬ A 1 x.toNatClampNeg = 5)) → rb_wp (d + 2) 69 32 [.ref 0, .int x, .int y] [] (rr_h A t) Q := by
    intro h9
    rw [rr_joinA, if_neg h9] at hq
    repeat refine rw_step rfl rfl ?_
    exact rw_ret rfl rfl rfl hq
  by_cases hx : 0 ≤ x ∧ x ≤ 2
  · rw [if_pos hx]
    refine rw_if rfl (fun h9 => absurd (rw_eq h9) (by decide)) (fun _ => ?_)
    refine rw_step rfl rfl ?_
    refine rw_call rfl rfl rfl ?_
    refine rr_isAddress ?_
    by_cases hy : 1 ≤ y ∧ y ≤ 9
    · rw [if_pos hy]
      refine rw_if rfl (fun h9 => absurd (rw_eq h9) (by decide)) (fun _ => ?_)
      repeat refine rw_step rfl rfl ?_
      refine rw_call rfl rfl rfl ?_
      refine rr_isStation ?_
      by_cases hs : A 2 (y - 1).toNatClampNeg = 0
      · rw [rr_isSt, if_neg (fun h9 => h9.2 hs)]
        refine rw_if rfl (fun h9 => absurd rfl (rw_ne h9)) (fun _ => ?_)
        obtain ⟨r, hr, rfl⟩ := rr_ring3 hx
        obtain ⟨n, hn, rfl⟩ := rr_addr9 hy
        have e1 : nI (n + 1) - 1 = nI n := nI_pred n
        have e2 : (nI (n + 1) - 1).toNatClampNeg = n := by rw [e1]; exact nI_clamp (by omega)
        repeat (first | refine rw_step rfl rfl ?_ | refine rr_ld rfl rfl rfl (by omega) rfl ?_)
        refine rw_icmp rfl (fun h1 => ?_) (fun h1 => ?_)
        · rw [rr_joinA, if_pos ⟨⟨⟨hx, hy⟩, hs⟩, by rw [rr_u3 hr]; exact rw_ne h1⟩, e2, rr_u3 hr] at hq
          repeat refine rw_step rfl rfl ?_
          refine rw_call rfl rfl rfl ?_
          show rb_cw (d + 2) 51 [.ref 0, .int (nI (n + 1) - 1), .int (nI r)] (rr_h A t) _
          rw [e1]
          refine rr_comeM (by omega) hr ?_
          repeat refine rw_step rfl rfl ?_
          exact rw_ret rfl rfl rfl hq
        · exact no (fun h9 => h9.2 (by rw [rr_u3 hr]; exact rw_neF h1))
      · rw [rr_isSt, if_pos ⟨hy, hs⟩]
        refine rw_if rfl (fun _ => no (fun h9 => hs h9.1.2)) (fun h9 => absurd (rw_neF h9) (by decide))
    · rw [if_neg hy]
      refine rw_if rfl (fun _ => no (fun h9 => hy h9.1.1.2)) (fun h9 => absurd rfl (rw_eqF h9))
  · rw [if_neg hx]
    refine rw_if rfl (fun _ => no (fun h9 => hx h9.1.1.1)) (fun h9 => absurd rfl (rw_eqF h9))
def rr_damA (A : Nat → Nat → Int32) (x : Int32) : Int32 × (Nat → Nat → Int32) := if (0 ≤ x ∧ x ≤ 2) ∧ ¬ A 21 x.toNatClampNeg = 0 then (1, if A 21 x.toNatClampNeg = 2 then rr_up A 27 x.toNatClampNeg 1 else rr_up (rr_up A 21 x.toNatClampNeg 0) 23 x.toNatClampNeg 0) else (0, A)
theorem rr_damM {x : Int32} (hq : Q (some (.int (rr_damA A x).1)) (rr_h (rr_damA A x).2 t)) : rb_cw (d + 2) 73 [.ref 0, .int x] (rr_h A t) Q := by
  refine rw_ent rfl rfl rfl ?_
  refine rw_step rfl rfl ?_
  refine rw_call rfl rfl rfl ?_
  refine rr_isRing ?_
  by_cases hx : 0 ≤ x ∧ x ≤ 2
  · rw [if_pos hx]
    obtain ⟨r, hr, rfl⟩ := rr_ring3 hx
    refine rw_if rfl (fun h9 => absurd (rw_eq h9) (by decide)) (fun _ => ?_)
    repeat (first | refine rw_step rfl rfl ?_ | refine rr_ld rfl rfl rfl (by omega) rfl ?_)
    refine rw_if rfl (fun h1 => ?_) (fun h1 => ?_)
    · have h2 : (0 ≤ nI r ∧ nI r ≤ 2) ∧ ¬ A 21 (nI r).toNatClampNeg = 0 := ⟨hx, by rw [rr_u3 hr]; exact rw_ne h1⟩
      rw [rr_damA, if_pos h2, rr_u3 hr] at hq
      repeat (first | refine rw_step rfl rfl ?_ | refine rr_ld rfl rfl rfl (by omega) rfl ?_)
      refine rw_icmp rfl (fun h3 => ?_) (fun h3 => ?_)
      · rw [if_neg (rw_ne h3)] at hq
        repeat (first | refine rw_step rfl rfl ?_ | refine rr_st rfl (fun _ => rfl) rfl (by omega) rfl ?_)
        exact rw_ret rfl rfl rfl hq
      · rw [if_pos (rw_neF h3)] at hq
        repeat (first | refine rw_step rfl rfl ?_ | refine rr_stz rfl rfl (fun _ => rfl) rfl (by omega) rfl ?_)
        exact rw_ret rfl rfl rfl hq
    · rw [rr_damA, if_neg (fun h9 => h9.2 (by rw [rr_u3 hr]; exact rw_neF h1))] at hq
      repeat refine rw_step rfl rfl ?_
      exact rw_ret rfl rfl rfl hq
  · rw [if_neg hx]
    rw [rr_damA, if_neg (fun h9 => hx h9.1)] at hq
    refine rw_if rfl (fun _ => ?_) (fun h9 => absurd rfl (rw_eqF h9))
    repeat refine rw_step rfl rfl ?_
    exact rw_ret rfl rfl rfl hq
end RRV
end
section
/-! the reference: count, forget, route -/
section RRW
variable {d : Nat} {Q : Option Value → rb_H → Prop} {A : Nat → Nat → Int32} {t : Int32}
def rr_countA (A : Nat → Nat → Int32) (x y : Int32) : Int32 := if (0 ≤ x ∧ x ≤ 2) ∧ (0 ≤ y ∧ y ≤ 2) then A 31 (3 * x.toNatClampNeg + y.toNatClampNeg) else -1
theorem rr_countM {x y : Int32} (hq : Q (some (.int (rr_countA A x y))) (rr_h A t)) : rb_cw (d + 2) 86 [.ref 0, .int x, .int y] (rr_h A t) Q := by
  have no : (¬ ((0 ≤ x ∧ x ≤ 2) ∧ (0 ≤ y ∧ y ≤ 2))) → rb_wp (d + 1) 86 16 [.ref 0, .int x, .int y] [] (rr_h A t) Q := by
    intro h9
    rw [rr_countA, if_neg h9] at hq
    repeat refine rw_step rfl rfl ?_
    exact rw_ret rfl rfl rfl hq
  refine rw_ent rfl rfl rfl ?_
  refine rw_step rfl rfl ?_
  refine rw_call rfl rfl rfl ?_
  refine rr_isRing ?_
  by_cases hx : 0 ≤ x ∧ x ≤ 2
  · rw [if_pos hx]
    refine rw_if rfl (fun h9 => absurd (rw_eq h9) (by decide)) (fun _ => ?_)
    repeat refine rw_step rfl rfl ?_
    refine rw_if rfl (fun h1 => no (fun h9 => absurd h9.2.1 (Int32.not_le.mpr (of_decide_eq_true h1)))) (fun h1 => ?_)
    repeat refine rw_step rfl rfl ?_
    refine rw_icmp rfl (fun h2 => ?_) (fun h2 => no (fun h9 => of_decide_eq_false h2 h9.2.2))
    have hy : 0 ≤ y ∧ y ≤ 2 := ⟨Int32.not_lt.mp (of_decide_eq_false h1), of_decide_eq_true h2⟩
    rw [rr_countA, if_pos ⟨hx, hy⟩] at hq
    obtain ⟨r, hr, rfl⟩ := rr_ring3 hx
    obtain ⟨m, hm, rfl⟩ := rr_ring3 hy
    rw [rr_u3 hr, rr_u3 hm] at hq
    have e1 : (3 : Int32) * nI r + nI m = nI (3 * r + m) := by rw [rr_c3, nI_add]
    repeat refine rw_step rfl rfl ?_
    refine rr_ld (i := 3 * r + m) rfl rfl e1 (by omega) rfl ?_
    exact rw_ret rfl rfl rfl hq
  · rw [if_neg hx]
    refine rw_if rfl (fun _ => no (fun h9 => hx h9.1)) (fun h9 => absurd rfl (rw_eqF h9))
def rr_rt (x y : Int32) : Nat := 9 * (x - 1).toNatClampNeg + (y - 1).toNatClampNeg
theorem rr_rtE {n m : Nat} (hn : n < 9) (hm : m < 9) : rr_rt (nI (n + 1)) (nI (m + 1)) = 9 * n + m := by rw [rr_rt, nI_pred, nI_pred, nI_clamp (by omega), nI_clamp (by omega)]
theorem rr_rtI {n m : Nat} : (9 : Int32) * (nI (n + 1) - 1) + nI (m + 1) - 1 = nI (9 * n + m) := by rw [nI_pred n, rr_c9, nI_add, ← Nat.add_assoc, nI_pred]
def rr_forgetA (A : Nat → Nat → Int32) (x y : Int32) : Int32 × (Nat → Nat → Int32) := if ((1 ≤ x ∧ x ≤ 9) ∧ (1 ≤ y ∧ y ≤ 9)) ∧ ¬ A 32 (rr_rt x y) = 0 then (1, rr_up A 32 (rr_rt x y) 0) else (0, A)
theorem rr_forgetM {x y : Int32} (hq : Q (some (.int (rr_forgetA A x y).1)) (rr_h (rr_forgetA A x y).2 t)) : rb_cw (d + 2) 75 [.ref 0, .int x, .int y] (rr_h A t) Q := by
  have no : (¬ (((1 ≤ x ∧ x ≤ 9) ∧ (1 ≤ y ∧ y ≤ 9)) ∧ ¬ A 32 (rr_rt x y) = 0)) → rb_wp (d + 1) 75 32 [.ref 0, .int x, .int y] [] (rr_h A t) Q := by
    intro h9
    rw [rr_forgetA, if_neg h9] at hq
    repeat refine rw_step rfl rfl ?_
    exact rw_ret rfl rfl rfl hq
  refine rw_ent rfl rfl rfl ?_
  refine rw_step rfl rfl ?_
  refine rw_call rfl rfl rfl ?_
  refine rr_isAddress ?_
  by_cases hx : 1 ≤ x ∧ x ≤ 9
  · rw [if_pos hx]
    refine rw_if rfl (fun h9 => absurd (rw_eq h9) (by decide)) (fun _ => ?_)
    repeat refine rw_step rfl rfl ?_
    refine rw_call rfl rfl rfl ?_
    refine rr_isAddress ?_
    by_cases hy : 1 ≤ y ∧ y ≤ 9
    · rw [if_pos hy]
      refine rw_if rfl (fun h9 => absurd (rw_eq h9) (by decide)) (fun _ => ?_)
      obtain ⟨n, hn, rfl⟩ := rr_addr9 hx
      obtain ⟨m, hm, rfl⟩ := rr_addr9 hy
      repeat refine rw_step rfl rfl ?_
      refine rr_ldz (i := 9 * n + m) rfl rfl rr_rtI (by omega) rfl ?_
      refine rw_if rfl (fun h1 => ?_) (fun h1 => no (fun h9 => h9.2 (by rw [rr_rtE hn hm]; exact rw_neF h1)))
      rw [rr_forgetA, if_pos ⟨⟨hx, hy⟩, by rw [rr_rtE hn hm]; exact rw_ne h1⟩, rr_rtE hn hm] at hq
      repeat refine rw_step rfl rfl ?_
      refine rr_stz (i := 9 * n + m) rfl rfl (fun _ => rfl) rr_rtI (by omega) rfl ?_
      repeat refine rw_step rfl rfl ?_
      exact rw_ret rfl rfl rfl hq
    · rw [if_neg hy]
      refine rw_if rfl (fun _ => no (fun h9 => hy h9.1.2)) (fun h9 => absurd rfl (rw_eqF h9))
  · rw [if_neg hx]
    refine rw_if rfl (fun _ => no (fun h9 => hx h9.1.1)) (fun h9 => absurd rfl (rw_eqF h9))
def rr_routeA (A : Nat → Nat → Int32) (x y : Int32) : Int32 := if ((1 ≤ x ∧ x ≤ 9) ∧ (1 ≤ y ∧ y ≤ 9)) ∧ ¬ A 32 (rr_rt x y) = 0 then A 33 (rr_rt x y) + 1 + 4 * (A 34 (rr_rt x y) + 1) else -1
theorem rr_routeM {x y : Int32} (hq : Q (some (.int (rr_routeA A x y))) (rr_h A t)) : rb_cw (d + 2) 76 [.ref 0, .int x, .int y] (rr_h A t) Q := by
  have no : (¬ (((1 ≤ x ∧ x ≤ 9) ∧ (1 ≤ y ∧ y ≤ 9)) ∧ ¬ A 32 (rr_rt x y) = 0)) → rb_wp (d + 1) 76 32 (rb_ent 76 [.ref 0, .int x, .int y]) [] (rr_h A t) Q := by
    intro h9
    rw [rr_routeA, if_neg h9] at hq
    repeat refine rw_step rfl rfl ?_
    exact rw_ret rfl rfl rfl hq
  refine rw_ent rfl rfl rfl ?_
  refine rw_step rfl rfl ?_
  refine rw_call rfl rfl rfl ?_
  refine rr_isAddress ?_
  by_cases hx : 1 ≤ x ∧ x ≤ 9
  · rw [if_pos hx]
    refine rw_if rfl (fun h9 => absurd (rw_eq h9) (by decide)) (fun _ => ?_)
    repeat refine rw_step rfl rfl ?_
    refine rw_call rfl rfl rfl ?_
    refine rr_isAddress ?_
    by_cases hy : 1 ≤ y ∧ y ≤ 9
    · rw [if_pos hy]
      refine rw_if rfl (fun h9 => absurd (rw_eq h9) (by decide)) (fun _ => ?_)
      obtain ⟨n, hn, rfl⟩ := rr_addr9 hx
      obtain ⟨m, hm, rfl⟩ := rr_addr9 hy
      repeat refine rw_step rfl rfl ?_
      refine rr_ldz (i := 9 * n + m) rfl rfl rr_rtI (by omega) rfl ?_
      refine rw_if rfl (fun h1 => ?_) (fun h1 => no (fun h9 => h9.2 (by rw [rr_rtE hn hm]; exact rw_neF h1)))
      rw [rr_routeA, if_pos ⟨⟨hx, hy⟩, by rw [rr_rtE hn hm]; exact rw_ne h1⟩, rr_rtE hn hm] at hq
      repeat (first | refine rw_step rfl rfl ?_ | refine rr_ld (i := 9 * n + m) rfl rfl rr_rtI (by omega) rfl ?_)
      exact rw_ret rfl rfl rfl hq
    · rw [if_neg hy]
      refine rw_if rfl (fun _ => no (fun h9 => hy h9.1.2)) (fun h9 => absurd rfl (rw_eqF h9))
  · rw [if_neg hx]
    refine rw_if rfl (fun _ => no (fun h9 => hx h9.1.1)) (fun h9 => absurd rfl (rw_eqF h9))
end RRW
end
section
/-! the reference: node, offer -/
section RRX
variable {d : Nat} {Q : Option Value → rb_H → Prop} {A : Nat → Nat → Int32} {t : Int32}
theorem rr_at_ran {r p : Int32} : ∀ N : Nat, rr_at A r p N = -1 ∨ ∃ n : Nat, n < N ∧ rr_at A r p N = nI n
  | 0 => Or.inl rfl
  | N + 1 => by
    rw [rr_at]
    by_cases h : (¬ A 2 N = 0 ∧ A 3 N = r) ∧ A 0 N = p
    · rw [if_pos h]; exact Or.inr ⟨N, by omega, rfl⟩
    · rw [if_neg h]
      rcases rr_at_ran N with h1 | ⟨n, h1, h2⟩
      · exact Or.inl h1
      · exact Or.inr ⟨n, by omega, h2⟩
def rr_nodeA (A : Nat → Nat → Int32) (x p k : Int32) : Int32 := if (0 ≤ x ∧ x ≤ 2) ∧ (0 ≤ k ∧ k ≤ 2) then (if rr_at A x p 15 < 0 then -1 else if k = 0 then rr_addr (rr_at A x p 15) else if k = 1 then A 4 (rr_at A x p 15).toNatClampNeg else A 5 (rr_at A x p 15).toNatClampNeg) else -1
theorem rr_nodeM {x p k : Int32} (hq : Q (some (.int (rr_nodeA A x p k))) (rr_h A t)) : rb_cw (d + 2) 85 [.ref 0, .int x, .int p, .int k] (rr_h A t) Q := by
  have no : (¬ ((0 ≤ x ∧ x ≤ 2) ∧ (0 ≤ k ∧ k ≤ 2))) → rb_wp (d + 1) 85 16 (rb_ent 85 [.ref 0, .int x, .int p, .int k]) [] (rr_h A t) Q := by
    intro h9
    rw [rr_nodeA, if_neg h9] at hq
    repeat refine rw_step rfl rfl ?_
    exact rw_ret rfl rfl rfl hq
  refine rw_ent rfl rfl rfl ?_
  refine rw_step rfl rfl ?_
  refine rw_call rfl rfl rfl ?_
  refine rr_isRing ?_
  by_cases hx : 0 ≤ x ∧ x ≤ 2
  · rw [if_pos hx]
    refine rw_if rfl (fun h9 => absurd (rw_eq h9) (by decide)) (fun _ => ?_)
    repeat refine rw_step rfl rfl ?_
    refine rw_if rfl (fun h1 => no (fun h9 => absurd h9.2.1 (Int32.not_le.mpr (of_decide_eq_true h1)))) (fun h1 => ?_)
    repeat refine rw_step rfl rfl ?_
    refine rw_icmp rfl (fun h2 => ?_) (fun h2 => no (fun h9 => of_decide_eq_false h2 h9.2.2))
    have hk : 0 ≤ k ∧ k ≤ 2 := ⟨Int32.not_lt.mp (of_decide_eq_false h1), of_decide_eq_true h2⟩
    rw [rr_nodeA, if_pos ⟨hx, hk⟩] at hq
    repeat refine rw_step rfl rfl ?_
    refine rw_call rfl rfl rfl ?_
    refine rr_nodeAt ?_
    rcases rr_at_ran (A := A) (r := x) (p := p) 15 with h3 | ⟨n, hn, h3⟩
    · rw [h3] at hq ⊢
      rw [if_pos (by decide)] at hq
      repeat refine rw_step rfl rfl ?_
      exact rw_ret rfl rfl rfl hq
    · rw [h3] at hq ⊢
      rw [if_neg (nI_pos (by omega)), nI_clamp (by omega)] at hq
      repeat refine rw_step rfl rfl ?_
      refine rw_if rfl (fun _ => ?_) (fun h4 => absurd (nI_pos' (n := n) (by omega)) (of_decide_eq_false h4))
      repeat refine rw_step rfl rfl ?_
      refine rw_if rfl (fun h4 => ?_) (fun h4 => ?_)
      · rw [if_neg (rw_ne h4)] at hq
        repeat refine rw_step rfl rfl ?_
        refine rw_icmp rfl (fun h5 => ?_) (fun h5 => ?_)
        · rw [if_neg (rw_ne h5)] at hq
          repeat (first | refine rw_step rfl rfl ?_ | refine rr_ld rfl rfl rfl (by omega) rfl ?_)
          exact rw_ret rfl rfl rfl hq
        · rw [if_pos (rw_neF h5)] at hq
          repeat (first | refine rw_step rfl rfl ?_ | refine rr_ld rfl rfl rfl (by omega) rfl ?_)
          exact rw_ret rfl rfl rfl hq
      · rw [if_pos (rw_neF h4)] at hq
        repeat refine rw_step rfl rfl ?_
        refine rw_call rfl rfl rfl ?_
        refine rr_addressOf ?_
        repeat refine rw_step rfl rfl ?_
        exact rw_ret rfl rfl rfl hq
  · rw [if_neg hx]
    refine rw_if rfl (fun _ => no (fun h9 => hx h9.1)) (fun h9 => absurd rfl (rw_eqF h9))
def rr_offC (A : Nat → Nat → Int32) (x v : Int32) : Prop := (((0 ≤ x ∧ x ≤ 3) ∧ A 35 x.toNatClampNeg = 1) ∧ (0 ≤ v ∧ v ≤ 255)) ∧ ¬ A 44 x.toNatClampNeg = 8
def rr_offA (A : Nat → Nat → Int32) (c w : Nat) (v : Int32) : Nat → Nat → Int32 := rr_up (rr_up A 45 (8 * c + w) v) 44 c (nI w + 1)
theorem rr_offNo {x v : Int32} (h9 : ¬ rr_offC A x v) (hq : Q (some (.int 0)) (rr_h A t)) : rb_cw (d + 2) 80 [.ref 0, .int x, .int v] (rr_h A t) Q := by
  have no : rb_wp (d + 1) 80 39 [.ref 0, .int x, .int v] [] (rr_h A t) Q := by
    repeat refine rw_step rfl rfl ?_
    exact rw_ret rfl rfl rfl hq
  refine rw_ent rfl rfl rfl ?_
  refine rw_step rfl rfl ?_
  refine rw_call rfl rfl rfl ?_
  refine rr_isConnection ?_
  by_cases hx : 0 ≤ x ∧ x ≤ 3
  · rw [if_pos hx]
    refine rw_if rfl (fun h9 => absurd (rw_eq h9) (by decide)) (fun _ => ?_)
    obtain ⟨c, hc, rfl⟩ := rr_link4 hx
    rw [rr_offC, rr_u4 hc] at h9
    repeat (first | refine rw_step rfl rfl ?_ | refine rr_ld rfl rfl rfl (by omega) rfl ?_)
    refine rw_icmp rfl (fun _ => no) (fun h1 => ?_)
    repeat refine rw_step rfl rfl ?_
    refine rw_if rfl (fun _ => no) (fun h2 => ?_)
    repeat refine rw_step rfl rfl ?_
    refine rw_icmp rfl (fun _ => no) (fun h3 => ?_)
    repeat (first | refine rw_step rfl rfl ?_ | refine rr_ld rfl rfl rfl (by omega) rfl ?_)
    refine rw_icmp rfl (fun h4 => ?_) (fun _ => no)
    exact absurd ⟨⟨⟨hx, rw_neF h1⟩, Int32.not_lt.mp (of_decide_eq_false h2), Int32.not_lt.mp (of_decide_eq_false h3)⟩, rw_ne h4⟩ h9
  · rw [if_neg hx]
    refine rw_if rfl (fun _ => no) (fun h9 => absurd rfl (rw_eqF h9))
theorem rr_offYes {c w : Nat} {v : Int32} (hc : c < 4) (hw : A 44 c = nI w) (hw8 : w < 8) (h1 : A 35 c = 1) (h2 : 0 ≤ v) (h3 : v ≤ 255) (hq : Q (some (.int 1)) (rr_h (rr_offA A c w v) t)) : rb_cw (d + 2) 80 [.ref 0, .int (nI c), .int v] (rr_h A t) Q := by
  have e1 : (8 : Int32) * nI c + A 44 c = nI (8 * c + w) := by rw [rr_c8, hw, nI_add]
  refine rw_ent rfl rfl rfl ?_
  refine rw_step rfl rfl ?_
  refine rw_call rfl rfl rfl ?_
  refine rr_isConnection ?_
  have hx : 0 ≤ nI c ∧ nI c ≤ 3 := ⟨nI_pos' (by omega), nI_le (b := 3) (by omega) (by decide)⟩
  rw [if_pos hx]
  refine rw_if rfl (fun h9 => absurd (rw_eq h9) (by decide)) (fun _ => ?_)
  repeat (first | refine rw_step rfl rfl ?_ | refine rr_ld rfl rfl rfl (by omega) rfl ?_)
  refine rw_icmp rfl (fun h9 => absurd h1 (rw_ne h9)) (fun _ => ?_)
  repeat refine rw_step rfl rfl ?_
  refine rw_if rfl (fun h9 => absurd h2 (Int32.not_le.mpr (of_decide_eq_true h9))) (fun _ => ?_)
  repeat refine rw_step rfl rfl ?_
  refine rw_icmp rfl (fun h9 => absurd h3 (Int32.not_le.mpr (of_decide_eq_true h9))) (fun _ => ?_)
  repeat (first | refine rw_step rfl rfl ?_ | refine rr_ld rfl rfl rfl (by omega) rfl ?_)
  refine rw_icmp rfl (fun _ => ?_) (fun h9 => absurd ((rw_neF h9).symm.trans hw) (fun h8 => absurd ((nI_eq (a := 8) (b := w) (by decide) (by omega)).mp h8) (by omega)))
  repeat (first | refine rw_step rfl rfl ?_ | refine rr_ld rfl rfl rfl (by omega) rfl ?_)
  refine rr_st (i := 8 * c + w) rfl (fun _ => rfl) e1 (by omega) rfl ?_
  repeat (first | refine rw_step rfl rfl ?_ | refine rr_ld rfl rfl rfl (by omega) rfl ?_ | refine rr_st rfl (fun _ => rfl) rfl (by omega) rfl ?_)
  refine rw_ret rfl rfl rfl ?_
  rw [rr_offA, ← hw] at hq
  exact hq
end RRX
end
section
/-! the reference: bridge, connection -/
section RRY
variable {d : Nat} {Q : Option Value → rb_H → Prop} {A : Nat → Nat → Int32} {t : Int32}
def rr_brA (A : Nat → Nat → Int32) (b x y : Int32) : Int32 × (Nat → Nat → Int32) := if (((0 ≤ b ∧ b ≤ 2) ∧ ((0 ≤ x ∧ x ≤ 2) ∧ (0 ≤ y ∧ y ≤ 2))) ∧ ¬ x = y) ∧ (A 2 (9 + 2 * b.toNatClampNeg) = 0 ∧ (¬ A 1 x.toNatClampNeg = 5 ∧ ¬ A 1 y.toNatClampNeg = 5)) then (1, rr_come (rr_come A (9 + 2 * b.toNatClampNeg) x.toNatClampNeg) (10 + 2 * b.toNatClampNeg) y.toNatClampNeg) else (0, A)
theorem rr_brM {b x y : Int32} (hq : Q (some (.int (rr_brA A b x y).1)) (rr_h (rr_brA A b x y).2 t)) : rb_cw (d + 2) 70 [.ref 0, .int b, .int x, .int y] (rr_h A t) Q := by
  have no : (¬ ((((0 ≤ b ∧ b ≤ 2) ∧ ((0 ≤ x ∧ x ≤ 2) ∧ (0 ≤ y ∧ y ≤ 2))) ∧ ¬ x = y) ∧ (A 2 (9 + 2 * b.toNatClampNeg) = 0 ∧ (¬ A 1 x.toNatClampNeg = 5 ∧ ¬ A 1 y.toNatClampNeg = 5)))) → rb_wp (d + 1) 70 28 [.ref 0, .int b, .int x, .int y] [] (rr_h A t) Q := by
    intro h9
    rw [rr_brA, if_neg h9] at hq
    repeat refine rw_step rfl rfl ?_
    exact rw_ret rfl rfl rfl hq
  have no2 : (¬ ((((0 ≤ b ∧ b ≤ 2) ∧ ((0 ≤ x ∧ x ≤ 2) ∧ (0 ≤ y ∧ y ≤ 2))) ∧ ¬ x = y) ∧ (A 2 (9 + 2 * b.toNatClampNeg) = 0 ∧ (¬ A 1 x.toNatClampNeg = 5 ∧ ¬ A 1 y.toNatClampNeg = 5)))) → rb_wp (d + 1) 70 64 [.ref 0, .int b, .int x, .int y] [] (rr_h A t) Q := by
    intro h9
    rw [rr_brA, if_neg h9] at hq
    repeat refine rw_step rfl rfl ?_
    exact rw_ret rfl rfl rfl hq
  refine rw_ent rfl rfl rfl ?_
  refine rw_step rfl rfl ?_
  refine rw_if rfl (fun h1 => no (fun h9 => absurd h9.1.1.1.1 (Int32.not_le.mpr (of_decide_eq_true h1)))) (fun h1 => ?_)
  repeat refine rw_step rfl rfl ?_
  refine rw_icmp rfl (fun h2 => no (fun h9 => absurd h9.1.1.1.2 (Int32.not_le.mpr (of_decide_eq_true h2)))) (fun h2 => ?_)
  have hb : 0 ≤ b ∧ b ≤ 2 := ⟨Int32.not_lt.mp (of_decide_eq_false h1), Int32.not_lt.mp (of_decide_eq_false h2)⟩
  refine rw_step rfl rfl ?_
  refine rw_call rfl rfl rfl ?_
  refine rr_isRing ?_
  by_cases hx : 0 ≤ x ∧ x ≤ 2
  · rw [if_pos hx]
    refine rw_if rfl (fun h9 => absurd (rw_eq h9) (by decide)) (fun _ => ?_)
    refine rw_step rfl rfl ?_
    refine rw_call rfl rfl rfl ?_
    refine rr_isRing ?_
    by_cases hy : 0 ≤ y ∧ y ≤ 2
    · rw [if_pos hy]
      refine rw_if rfl (fun h9 => absurd (rw_eq h9) (by decide)) (fun _ => ?_)
      repeat refine rw_step rfl rfl ?_
      refine rw_icmp rfl (fun h3 => ?_) (fun h3 => no (fun h9 => h9.1.2 (rw_neF h3)))
      have hxy := rw_ne h3
      obtain ⟨k, hk, rfl⟩ := rr_ring3 hb
      obtain ⟨r, hr, rfl⟩ := rr_ring3 hx
      obtain ⟨s, hs, rfl⟩ := rr_ring3 hy
      have e1 : (9 : Int32) + 2 * nI k = nI (9 + 2 * k) := by rw [show (2 : Int32) * nI k = nI (2 * k) from rr_mul 2 k]; exact nI_add 9 (2 * k)
      have e2 : (10 : Int32) + 2 * nI k = nI (10 + 2 * k) := by rw [show (2 : Int32) * nI k = nI (2 * k) from rr_mul 2 k]; exact nI_add 10 (2 * k)
      repeat refine rw_step rfl rfl ?_
      refine rr_ldz (i := 9 + 2 * k) rfl rfl e1 (by omega) rfl ?_
      refine rw_if rfl (fun h4 => no2 (fun h9 => rw_ne h4 (by rw [← h9.2.1, rr_u3 hk]))) (fun h4 => ?_)
      repeat (first | refine rw_step rfl rfl ?_ | refine rr_ld rfl rfl rfl (by omega) rfl ?_)
      refine rw_icmp rfl (fun h5 => no2 (fun h9 => h9.2.2.1 (by rw [rr_u3 hr]; exact rw_eq h5))) (fun h5 => ?_)
      repeat (first | refine rw_step rfl rfl ?_ | refine rr_ld rfl rfl rfl (by omega) rfl ?_)
      refine rw_icmp rfl (fun h6 => ?_) (fun h6 => no2 (fun h9 => h9.2.2.2 (by rw [rr_u3 hs]; exact rw_neF h6)))
      rw [rr_brA, if_pos ⟨⟨⟨hb, hx, hy⟩, hxy⟩, by rw [rr_u3 hk]; exact rw_neF h4, by rw [rr_u3 hr]; exact rw_eqF h5, by rw [rr_u3 hs]; exact rw_ne h6⟩, rr_u3 hk, rr_u3 hr, rr_u3 hs] at hq
      repeat refine rw_step rfl rfl ?_
      refine rw_call rfl rfl rfl ?_
      show rb_cw (d + 1) 51 [.ref 0, .int ((9 : Int32) + 2 * nI k), .int (nI r)] (rr_h A t) _
      rw [e1]
      refine rr_comeM (by omega) hr ?_
      repeat refine rw_step rfl rfl ?_
      refine rw_call rfl rfl rfl ?_
      show rb_cw (d + 1) 51 [.ref 0, .int ((10 : Int32) + 2 * nI k), .int (nI s)] (rr_h (rr_come A (9 + 2 * k) r) t) _
      rw [e2]
      refine rr_comeM (by omega) hs ?_
      repeat refine rw_step rfl rfl ?_
      exact rw_ret rfl rfl rfl hq
    · rw [if_neg hy]
      refine rw_if rfl (fun _ => no (fun h9 => hy h9.1.1.2.2)) (fun h9 => absurd rfl (rw_eqF h9))
  · rw [if_neg hx]
    refine rw_if rfl (fun _ => no (fun h9 => hx h9.1.1.2.1)) (fun h9 => absurd rfl (rw_eqF h9))
def rr_conV (A : Nat → Nat → Int32) (c : Nat) : Nat → Int32
  | 0 => A 35 c
  | 1 => A 42 c
  | 2 => A 43 c
  | 3 => A 44 c
  | 4 => A 49 c
  | 5 => A 50 c
  | 6 => A 48 c
  | _ => A 47 c + (if A 46 c = 0 then 0 else 100)
theorem rr_conTail {c m : Nat} (hc : c < 4) (hm : m < 8) (hq : Q (some (.int (rr_conV A c m))) (rr_h A t)) : rb_wp d 87 32 [.ref 0, .int (nI c), .int (nI m)] [] (rr_h A t) Q := by
  have h : m = 0 ∨ m = 1 ∨ m = 2 ∨ m = 3 ∨ m = 4 ∨ m = 5 ∨ m = 6 ∨ m = 7 := by omega
  rcases h with rfl | rfl | rfl | rfl | rfl | rfl | rfl | rfl
  all_goals repeat (first | refine rw_step rfl rfl ?_ | refine rr_ld rfl rfl rfl (by omega) rfl ?_ | refine rr_ldz rfl rfl rfl (by omega) rfl ?_)
  iterate 7 (refine rw_ret rfl rfl rfl ?_; exact hq)
  have hq : Q (some (.int (A 47 c + (if A 46 c = 0 then 0 else 100)))) (rr_h A t) := hq
  refine rw_if rfl (fun h1 => ?_) (fun h1 => ?_)
  · rw [if_pos (rw_eq h1)] at hq
    repeat refine rw_step rfl rfl ?_
    exact rw_ret rfl rfl rfl hq
  · rw [if_neg (rw_eqF h1)] at hq
    repeat refine rw_step rfl rfl ?_
    exact rw_ret rfl rfl rfl hq
end RRY
end
section
/-! the reference: connection, signal -/
section RRZ
variable {d : Nat} {Q : Option Value → rb_H → Prop} {A : Nat → Nat → Int32} {t : Int32}
def rr_conA (A : Nat → Nat → Int32) (x k : Int32) : Int32 := if ((0 ≤ x ∧ x ≤ 3) ∧ (0 ≤ k ∧ k ≤ 7)) ∧ (k = 0 ∨ ¬ A 35 x.toNatClampNeg = 0) then rr_conV A x.toNatClampNeg k.toNatClampNeg else -1
theorem rr_conM {x k : Int32} (hq : Q (some (.int (rr_conA A x k))) (rr_h A t)) : rb_cw (d + 2) 87 [.ref 0, .int x, .int k] (rr_h A t) Q := by
  have no : (¬ (((0 ≤ x ∧ x ≤ 3) ∧ (0 ≤ k ∧ k ≤ 7)) ∧ (k = 0 ∨ ¬ A 35 x.toNatClampNeg = 0))) → rb_wp (d + 1) 87 30 [.ref 0, .int x, .int k] [] (rr_h A t) Q := by
    intro h9
    rw [rr_conA, if_neg h9] at hq
    repeat refine rw_step rfl rfl ?_
    exact rw_ret rfl rfl rfl hq
  refine rw_ent rfl rfl rfl ?_
  refine rw_step rfl rfl ?_
  refine rw_call rfl rfl rfl ?_
  refine rr_isConnection ?_
  by_cases hx : 0 ≤ x ∧ x ≤ 3
  · rw [if_pos hx]
    refine rw_if rfl (fun h9 => absurd (rw_eq h9) (by decide)) (fun _ => ?_)
    repeat refine rw_step rfl rfl ?_
    refine rw_if rfl (fun h1 => no (fun h9 => absurd h9.1.2.1 (Int32.not_le.mpr (of_decide_eq_true h1)))) (fun h1 => ?_)
    repeat refine rw_step rfl rfl ?_
    refine rw_icmp rfl (fun h2 => no (fun h9 => absurd h9.1.2.2 (Int32.not_le.mpr (of_decide_eq_true h2)))) (fun h2 => ?_)
    have hk : 0 ≤ k ∧ k ≤ 7 := ⟨Int32.not_lt.mp (of_decide_eq_false h1), Int32.not_lt.mp (of_decide_eq_false h2)⟩
    obtain ⟨c, hc, rfl⟩ := rr_link4 hx
    obtain ⟨m, hm, rfl⟩ := nI_of2 (M := 7) (n := 7) (x := k) (by decide) (Int32.not_lt.mpr hk.1) hk.2
    have go : (nI m = 0 ∨ ¬ A 35 c = 0) → rb_wp (d + 1) 87 32 [.ref 0, .int (nI c), .int (nI m)] [] (rr_h A t) Q := by
      intro h9
      rw [rr_conA, if_pos ⟨⟨hx, hk⟩, by rw [rr_u4 hc]; exact h9⟩, rr_u4 hc, nI_clamp (by omega)] at hq
      exact rr_conTail hc (by omega) hq
    repeat refine rw_step rfl rfl ?_
    refine rw_if rfl (fun h3 => go (Or.inl (rw_eq h3))) (fun h3 => ?_)
    repeat (first | refine rw_step rfl rfl ?_ | refine rr_ld rfl rfl rfl (by omega) rfl ?_)
    refine rw_if rfl (fun h4 => go (Or.inr (rw_ne h4))) (fun h4 => no (fun h9 => h9.2.elim (rw_eqF h3) (fun h8 => h8 (by rw [rr_u4 hc]; exact rw_neF h4))))
  · rw [if_neg hx]
    refine rw_if rfl (fun _ => no (fun h9 => hx h9.1.1)) (fun h9 => absurd rfl (rw_eqF h9))
theorem rr_sig3 {r : Nat} {s v : Int32} (hr : r < 3) (hq : Q (some (.int (v + if A 28 r = 0 then 0 else 512))) (rr_h A t)) : rb_wp d 82 101 [.ref 0, .int (nI r), .int s] [.int v] (rr_h A t) Q := by
  repeat (first | refine rw_step rfl rfl ?_ | refine rr_ldz rfl rfl rfl (by omega) rfl ?_)
  refine rw_if rfl (fun h1 => ?_) (fun h1 => ?_)
  · rw [if_pos (rw_eq h1)] at hq
    repeat refine rw_step rfl rfl ?_
    exact rw_ret rfl rfl rfl hq
  · rw [if_neg (rw_eqF h1)] at hq
    repeat refine rw_step rfl rfl ?_
    exact rw_ret rfl rfl rfl hq
theorem rr_sig2 {r : Nat} {s v : Int32} (hr : r < 3) (hq : Q (some (.int (v + (if A 27 r = 0 then 0 else 256) + if A 28 r = 0 then 0 else 512))) (rr_h A t)) : rb_wp d 82 84 [.ref 0, .int (nI r), .int s] [.int v] (rr_h A t) Q := by
  iterate 3 refine rw_step rfl rfl ?_
  refine rr_ldz rfl rfl rfl (by omega) rfl ?_
  refine rw_if rfl (fun h1 => ?_) (fun h1 => ?_)
  · rw [if_pos (rw_eq h1)] at hq
    iterate 2 refine rw_step rfl rfl ?_
    exact rr_sig3 hr hq
  · rw [if_neg (rw_eqF h1)] at hq
    iterate 3 refine rw_step rfl rfl ?_
    exact rr_sig3 hr hq
theorem rr_sig1 {r : Nat} {s v : Int32} (hr : r < 3) (hq : Q (some (.int (v + (if A 26 r = 0 then 0 else 128) + (if A 27 r = 0 then 0 else 256) + if A 28 r = 0 then 0 else 512))) (rr_h A t)) : rb_wp d 82 67 [.ref 0, .int (nI r), .int s] [.int v] (rr_h A t) Q := by
  iterate 3 refine rw_step rfl rfl ?_
  refine rr_ldz rfl rfl rfl (by omega) rfl ?_
  refine rw_if rfl (fun h1 => ?_) (fun h1 => ?_)
  · rw [if_pos (rw_eq h1)] at hq
    iterate 2 refine rw_step rfl rfl ?_
    exact rr_sig2 hr hq
  · rw [if_neg (rw_eqF h1)] at hq
    iterate 3 refine rw_step rfl rfl ?_
    exact rr_sig2 hr hq
end RRZ
end
section
/-! the reference: signal -/
section RSA
variable {d : Nat} {Q : Option Value → rb_H → Prop} {A : Nat → Nat → Int32} {t : Int32}
def rr_sigV (A : Nat → Nat → Int32) (r : Nat) : Int32 := if A 21 r = 3 ∨ A 21 r = 4 then A 21 r + 8 * A 29 r else if A 21 r = 0 then 0 else A 21 r + 8 * A 24 r + 32 * A 25 r + (if A 26 r = 0 then 0 else 128) + (if A 27 r = 0 then 0 else 256) + (if A 28 r = 0 then 0 else 512)
def rr_sigA (A : Nat → Nat → Int32) (x : Int32) : Int32 := if 0 ≤ x ∧ x ≤ 2 then rr_sigV A x.toNatClampNeg else -1
theorem rr_sigM {x : Int32} (hq : Q (some (.int (rr_sigA A x))) (rr_h A t)) : rb_cw (d + 2) 82 [.ref 0, .int x] (rr_h A t) Q := by
  refine rw_ent rfl rfl rfl ?_
  refine rw_step rfl rfl ?_
  refine rw_call rfl rfl rfl ?_
  refine rr_isRing ?_
  by_cases hx : 0 ≤ x ∧ x ≤ 2
  · rw [if_pos hx]
    obtain ⟨r, hr, rfl⟩ := rr_ring3 hx
    rw [rr_sigA, if_pos hx, rr_u3 hr] at hq
    have hi : (A 21 r = 3 ∨ A 21 r = 4) → rb_wp (d + 1) 82 26 [.ref 0, .int (nI r), .int (A 21 r)] [] (rr_h A t) Q := by
      intro h9
      rw [rr_sigV, if_pos h9] at hq
      repeat (first | refine rw_step rfl rfl ?_ | refine rr_ld rfl rfl rfl (by omega) rfl ?_)
      exact rw_ret rfl rfl rfl hq
    refine rw_if rfl (fun _ => ?_) (fun h9 => absurd (rw_neF h9) (by decide))
    repeat (first | refine rw_step rfl rfl ?_ | refine rr_ld rfl rfl rfl (by omega) rfl ?_)
    refine rw_icmp rfl (fun h1 => hi (Or.inl (rw_eq h1))) (fun h1 => ?_)
    repeat refine rw_step rfl rfl ?_
    refine rw_icmp rfl (fun h2 => ?_) (fun h2 => hi (Or.inr (rw_neF h2)))
    rw [rr_sigV, if_neg (fun h9 => h9.elim (rw_eqF h1) (rw_ne h2))] at hq
    repeat refine rw_step rfl rfl ?_
    refine rw_if rfl (fun h3 => ?_) (fun h3 => ?_)
    · rw [if_neg (rw_ne h3)] at hq
      iterate 5 refine rw_step rfl rfl ?_
      refine rr_ld rfl rfl rfl (by omega) rfl ?_
      iterate 6 refine rw_step rfl rfl ?_
      refine rr_ld rfl rfl rfl (by omega) rfl ?_
      iterate 2 refine rw_step rfl rfl ?_
      exact rr_sig1 hr hq
    · rw [if_pos (rw_neF h3)] at hq
      repeat refine rw_step rfl rfl ?_
      exact rw_ret rfl rfl rfl hq
  · rw [rr_sigA, if_neg hx] at hq
    rw [if_neg hx]
    refine rw_if rfl (fun h9 => absurd rfl (rw_ne h9)) (fun _ => ?_)
    repeat refine rw_step rfl rfl ?_
    exact rw_ret rfl rfl rfl hq
end RSA
end
section
/-! the reference: explore -/
section RSB
variable {d : Nat} {Q : Option Value → rb_H → Prop} {A : Nat → Nat → Int32} {t : Int32}
theorem rr_expNo {x y : Int32} (hno : ¬ (((rr_isSt A x = 1 ∧ (1 ≤ y ∧ y ≤ 9)) ∧ ¬ x = y) ∧ ¬ A 4 (x - 1).toNatClampNeg = 4)) (hq : Q (some (.int 0)) (rr_h A t)) : rb_cw (d + 3) 74 [.ref 0, .int x, .int y] (rr_h A t) Q := by
  have no : rb_wp (d + 2) 74 32 [.ref 0, .int x, .int y] [] (rr_h A t) Q := by
    repeat refine rw_step rfl rfl ?_
    exact rw_ret rfl rfl rfl hq
  refine rw_ent rfl rfl rfl ?_
  repeat refine rw_step rfl rfl ?_
  refine rw_call rfl rfl rfl ?_
  refine rr_isStation ?_
  by_cases hs : (1 ≤ x ∧ x ≤ 9) ∧ ¬ A 2 (x - 1).toNatClampNeg = 0
  · have hs1 : rr_isSt A x = 1 := by rw [rr_isSt, if_pos hs]
    rw [hs1] at hno ⊢
    refine rw_if rfl (fun h9 => absurd (rw_eq h9) (by decide)) (fun _ => ?_)
    repeat refine rw_step rfl rfl ?_
    refine rw_call rfl rfl rfl ?_
    refine rr_isAddress ?_
    by_cases hy : 1 ≤ y ∧ y ≤ 9
    · rw [if_pos hy]
      refine rw_if rfl (fun h9 => absurd (rw_eq h9) (by decide)) (fun _ => ?_)
      obtain ⟨n, hn, rfl⟩ := rr_addr9 hs.1
      have e1 : nI (n + 1) - 1 = nI n := nI_pred n
      have e2 : (nI (n + 1) - 1).toNatClampNeg = n := by rw [e1]; exact nI_clamp (by omega)
      rw [e2] at hno
      repeat refine rw_step rfl rfl ?_
      refine rw_icmp rfl (fun _ => no) (fun h1 => ?_)
      repeat refine rw_step rfl rfl ?_
      refine rr_ld (i := n) rfl rfl e1 (by omega) rfl ?_
      repeat refine rw_step rfl rfl ?_
      refine rw_icmp rfl (fun h2 => ?_) (fun _ => no)
      exact absurd ⟨⟨⟨rfl, hy⟩, rw_eqF h1⟩, rw_ne h2⟩ hno
    · rw [if_neg hy]
      refine rw_if rfl (fun _ => no) (fun h9 => absurd rfl (rw_eqF h9))
  · have hs1 : rr_isSt A x = 0 := by rw [rr_isSt, if_neg hs]
    rw [hs1]
    refine rw_if rfl (fun _ => no) (fun h9 => absurd rfl (rw_eqF h9))
end RSB
end
section
/-! the reference: explore, where it sends -/
section RSC
variable {d : Nat} {Q : Option Value → rb_H → Prop} {A : Nat → Nat → Int32} {t : Int32}
def rr_exp0 (A : Nat → Nat → Int32) (n : Nat) (y : Int32) : Nat → Nat → Int32 := rr_up (rr_make A 0 1 (nI (n + 1)) y (-1) (-1)) 16 63 ((1 : Int32) <<< (rr_make A 0 1 (nI (n + 1)) y (-1) (-1) 3 n &&& 31))
theorem rr_expYes {n w : Nat} {y : Int32} (hn : n < 9) (hst : ¬ A 2 n = 0) (hy : 1 ≤ y ∧ y ≤ 9) (hxy : ¬ nI (n + 1) = y) (hw : A 4 n = nI w) (hw4 : w < 4) (hq : Q (some (.int 1)) (rr_h (rr_queue (rr_exp0 A n y) n w) t)) : rb_cw (d + 3) 74 [.ref 0, .int (nI (n + 1)), .int y] (rr_h A t) Q := by
  have e1 : nI (n + 1) - 1 = nI n := nI_pred n
  have e2 : (nI (n + 1) - 1).toNatClampNeg = n := by rw [e1]; exact nI_clamp (by omega)
  have hx : (1 : Int32) ≤ nI (n + 1) ∧ nI (n + 1) ≤ 9 := ⟨nI_le (a := 1) (by omega) (by omega), nI_le (b := 9) (by omega) (by decide)⟩
  refine rw_ent rfl rfl rfl ?_
  repeat refine rw_step rfl rfl ?_
  refine rw_call rfl rfl rfl ?_
  refine rr_isStation ?_
  rw [rr_isSt, if_pos ⟨hx, by rw [e2]; exact hst⟩]
  refine rw_if rfl (fun h9 => absurd (rw_eq h9) (by decide)) (fun _ => ?_)
  repeat refine rw_step rfl rfl ?_
  refine rw_call rfl rfl rfl ?_
  refine rr_isAddress ?_
  rw [if_pos hy]
  refine rw_if rfl (fun h9 => absurd (rw_eq h9) (by decide)) (fun _ => ?_)
  repeat refine rw_step rfl rfl ?_
  refine rw_icmp rfl (fun h9 => absurd (rw_eq h9) hxy) (fun _ => ?_)
  repeat refine rw_step rfl rfl ?_
  refine rr_ld (i := n) rfl rfl e1 (by omega) rfl ?_
  repeat refine rw_step rfl rfl ?_
  refine rw_icmp rfl (fun _ => ?_) (fun h9 => absurd (hw.symm.trans (rw_neF h9)) (fun h8 => absurd ((nI_eq (a := w) (b := 4) (by omega) (by decide)).mp h8) (by omega)))
  repeat refine rw_step rfl rfl ?_
  refine rw_call rfl rfl rfl ?_
  refine rr_makeFrame ?_
  repeat refine rw_step rfl rfl ?_
  refine rr_ld (i := n) rfl rfl e1 (by omega) rfl ?_
  refine rw_step rfl rfl ?_
  refine rr_st (i := 63) rfl (fun _ => rfl) rfl (by omega) rfl ?_
  repeat refine rw_step rfl rfl ?_
  refine rw_call rfl rfl rfl ?_
  show rb_cw (d + 2) 54 [.ref 0, .int (nI (n + 1) - 1)] (rr_h (rr_exp0 A n y) t) _
  rw [e1]
  refine rr_queueNew (by omega) hw (by omega) ?_
  repeat refine rw_step rfl rfl ?_
  exact rw_ret rfl rfl rfl hq
end RSC
end
section
/-! the reference: take, the loop that closes the gap -/
section RSD
variable {d : Nat} {Q : Option Value → rb_H → Prop} {t : Int32}
def rr_gap (c : Nat) (B : Nat → Nat → Int32) : Nat → Nat → Nat → Nat → Int32
  | 0, _ => B
  | f + 1, i => rr_gap c (rr_up B 51 (4 * c + i) (B 51 (4 * c + i + 1))) f (i + 1)
theorem rr_takeLoop {c : Nat} {v : Int32} (hc : c < 4) : ∀ (f i : Nat) (x : Int32) (B : Nat → Nat → Int32), x = nI i → i + f < 4 → B 50 c = nI (i + f) → (rb_wp d 81 86 [.ref 0, .int (nI c), .int v, .int (nI (i + f))] [] (rr_h (rr_gap c B f i) t) Q) → rb_wp d 81 48 [.ref 0, .int (nI c), .int v, .int x] [] (rr_h B t) Q := by
  intro f
  induction f with
  | zero =>
    intro i x B hx hi hB kk
    subst hx
    iterate 4 refine rw_step rfl rfl ?_
    refine rr_ld rfl rfl rfl (by omega) rfl ?_
    refine rw_icmp rfl (fun _ => kk) (fun h => absurd (by rw [hB]; exact Int32.le_refl _) (of_decide_eq_false h))
  | succ f ih =>
    intro i x B hx hi hB kk
    subst hx
    have e1 : (4 : Int32) * nI c + nI i + 1 = nI (4 * c + i + 1) := by rw [rr_c4, nI_add, nI_1]
    have e2 : (4 : Int32) * nI c + nI i = nI (4 * c + i) := by rw [rr_c4, nI_add]
    iterate 4 refine rw_step rfl rfl ?_
    refine rr_ld rfl rfl rfl (by omega) rfl ?_
    refine rw_icmp rfl (fun h => absurd (of_decide_eq_true h) (by rw [hB]; exact nI_ge (by omega) (by omega))) (fun _ => ?_)
    repeat refine rw_step rfl rfl ?_
    refine rr_ld (i := 4 * c + i + 1) rfl rfl e1 (by omega) rfl ?_
    refine rr_st (i := 4 * c + i) rfl (fun _ => rfl) e2 (by omega) rfl ?_
    iterate 2 refine rw_step rfl rfl ?_
    refine ih (i + 1) _ _ (nI_1 i) (by omega) ?_ ?_
    · show B 50 c = _
      rw [hB, show i + (f + 1) = i + 1 + f by omega]
    · rw [show i + (f + 1) = i + 1 + f by omega] at kk
      exact kk
end RSD
end
section
/-! the reference: take -/
section RSE
variable {d : Nat} {Q : Option Value → rb_H → Prop} {A : Nat → Nat → Int32} {t : Int32}
def rr_takeE (B : Nat → Nat → Int32) (c n w : Nat) : Nat → Nat → Int32 := if (B 35 c = 1 ∧ ¬ B 53 c = 0) ∧ w < 4 then rr_ans (rr_up B 53 c 0) c 3 n w else B
theorem rr_takeEnd {B : Nat → Nat → Int32} {c n w : Nat} {v x : Int32} (hc : c < 4) (hn : B 35 c = 1 → n < 9 ∧ B 37 c = nI (n + 1)) (hw : B 35 c = 1 → B 4 n = nI w) (hw4 : w ≤ 4) (hq : Q (some (.int v)) (rr_h (rr_takeE B c n w) t)) : rb_wp (d + 3) 81 86 [.ref 0, .int (nI c), .int v, .int x] [] (rr_h B t) Q := by
  have no : (¬ ((B 35 c = 1 ∧ ¬ B 53 c = 0) ∧ w < 4)) → rb_wp (d + 3) 81 135 [.ref 0, .int (nI c), .int v, .int x] [] (rr_h B t) Q := by
    intro h9
    rw [rr_takeE, if_neg h9] at hq
    repeat refine rw_step rfl rfl ?_
    exact rw_ret rfl rfl rfl hq
  repeat (first | refine rw_step rfl rfl ?_ | refine rr_ld rfl rfl rfl (by omega) rfl ?_)
  refine rw_icmp rfl (fun h1 => no (fun h9 => rw_ne h1 h9.1.1)) (fun h1 => ?_)
  have h35 := rw_neF h1
  obtain ⟨hn9, h37⟩ := hn h35
  have e1 : B 37 c - 1 = nI n := by rw [h37]; exact nI_pred n
  repeat (first | refine rw_step rfl rfl ?_ | refine rr_ldz rfl rfl rfl (by omega) rfl ?_)
  refine rw_if rfl (fun h2 => no (fun h9 => h9.1.2 (rw_eq h2))) (fun h2 => ?_)
  iterate 5 refine rw_step rfl rfl ?_
  refine rr_ld rfl rfl rfl (by omega) rfl ?_
  iterate 2 refine rw_step rfl rfl ?_
  refine rr_ld (i := n) rfl rfl e1 (by omega) rfl ?_
  refine rw_step rfl rfl ?_
  rw [hw h35]
  refine rw_icmp rfl (fun h3 => no (fun h9 => absurd (of_decide_eq_true h3) (nI_ge (b := 4) h9.2 (by decide)))) (fun h3 => ?_)
  have hw3 : w < 4 := by
    rcases Nat.lt_or_ge w 4 with h | h
    · exact h
    · exact absurd (nI_le (a := 4) h (by omega)) (of_decide_eq_false h3)
  rw [rr_takeE, if_pos ⟨⟨h35, rw_eqF h2⟩, hw3⟩] at hq
  repeat (first | refine rr_stz rfl rfl (fun _ => rfl) rfl (by omega) rfl ?_ | refine rw_step rfl rfl ?_)
  refine rw_call rfl rfl rfl ?_
  refine rr_answer (n := n) hc (by omega) h37 (hw h35) hw4 ?_
  repeat refine rw_step rfl rfl ?_
  exact rw_ret rfl rfl rfl hq
end RSE
end
section
/-! the reference: take, its head -/
section RSF
variable {d : Nat} {Q : Option Value → rb_H → Prop} {A : Nat → Nat → Int32} {t : Int32}
theorem rr_takeNo {x : Int32} (hno : ¬ (((0 ≤ x ∧ x ≤ 3) ∧ ¬ A 35 x.toNatClampNeg = 0) ∧ ¬ A 50 x.toNatClampNeg = 0)) (hq : Q (some (.int (-1))) (rr_h A t)) : rb_cw (d + 4) 81 [.ref 0, .int x] (rr_h A t) Q := by
  have no : rb_wp (d + 3) 81 25 (rb_ent 81 [.ref 0, .int x]) [] (rr_h A t) Q := by
    repeat refine rw_step rfl rfl ?_
    exact rw_ret rfl rfl rfl hq
  refine rw_ent rfl rfl rfl ?_
  refine rw_step rfl rfl ?_
  refine rw_call rfl rfl rfl ?_
  refine rr_isConnection ?_
  by_cases hx : 0 ≤ x ∧ x ≤ 3
  · rw [if_pos hx]
    obtain ⟨c, hc, rfl⟩ := rr_link4 hx
    rw [rr_u4 hc] at hno
    refine rw_if rfl (fun h9 => absurd (rw_eq h9) (by decide)) (fun _ => ?_)
    repeat (first | refine rw_step rfl rfl ?_ | refine rr_ld rfl rfl rfl (by omega) rfl ?_)
    refine rw_if rfl (fun _ => no) (fun h1 => ?_)
    repeat (first | refine rw_step rfl rfl ?_ | refine rr_ld rfl rfl rfl (by omega) rfl ?_)
    refine rw_if rfl (fun h2 => ?_) (fun _ => no)
    exact absurd ⟨⟨hx, rw_eqF h1⟩, rw_ne h2⟩ hno
  · rw [if_neg hx]
    refine rw_if rfl (fun _ => no) (fun h9 => absurd rfl (rw_eqF h9))
def rr_takeG (A : Nat → Nat → Int32) (c m : Nat) : Nat → Nat → Int32 := rr_gap c (rr_up A 50 c (A 50 c - 1)) m 0
theorem rr_takeYes {c m n w : Nat} (hc : c < 4) (h35 : ¬ A 35 c = 0) (h50 : A 50 c = nI (m + 1)) (hm : m < 4) (hn : rr_takeG A c m 35 c = 1 → n < 9 ∧ rr_takeG A c m 37 c = nI (n + 1)) (hw : rr_takeG A c m 35 c = 1 → rr_takeG A c m 4 n = nI w) (hw4 : w ≤ 4) (hq : Q (some (.int (A 51 (4 * c)))) (rr_h (rr_takeE (rr_takeG A c m) c n w) t)) : rb_cw (d + 4) 81 [.ref 0, .int (nI c)] (rr_h A t) Q := by
  have hx : 0 ≤ nI c ∧ nI c ≤ 3 := ⟨nI_pos' (by omega), nI_le (b := 3) (by omega) (by decide)⟩
  have h50' : ¬ A 50 c = 0 := by rw [h50]; exact nI_ne0 (by omega) (by omega)
  refine rw_ent rfl rfl rfl ?_
  refine rw_step rfl rfl ?_
  refine rw_call rfl rfl rfl ?_
  refine rr_isConnection ?_
  rw [if_pos hx]
  refine rw_if rfl (fun h9 => absurd (rw_eq h9) (by decide)) (fun _ => ?_)
  repeat (first | refine rw_step rfl rfl ?_ | refine rr_ld rfl rfl rfl (by omega) rfl ?_)
  refine rw_if rfl (fun h9 => absurd (rw_eq h9) h35) (fun _ => ?_)
  repeat (first | refine rw_step rfl rfl ?_ | refine rr_ld rfl rfl rfl (by omega) rfl ?_)
  refine rw_if rfl (fun _ => ?_) (fun h9 => absurd (rw_neF h9) h50')
  iterate 5 refine rw_step rfl rfl ?_
  refine rr_ld (i := 4 * c) rfl rfl (rr_c4 c) (by omega) rfl ?_
  iterate 5 refine rw_step rfl rfl ?_
  refine rr_ld rfl rfl rfl (by omega) rfl ?_
  iterate 2 refine rw_step rfl rfl ?_
  refine rr_st rfl (fun _ => rfl) rfl (by omega) rfl ?_
  iterate 2 refine rw_step rfl rfl ?_
  refine rr_takeLoop hc m 0 _ _ rfl (by omega) ?_ ?_
  · have e9 : rr_up A 50 c (A 50 c - 1) 50 c = A 50 c - 1 := rr_up_same A 50 c _
    refine e9.trans ?_
    rw [h50, nI_pred, Nat.zero_add]
  · exact rr_takeEnd hc hn hw hw4 hq
end RSF
end
