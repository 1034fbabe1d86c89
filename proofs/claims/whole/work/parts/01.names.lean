-- ===== PART A: goes FIRST, ahead of the names: the tables' words, and 'selects' of the private methods out of them =====
/-- a private method of a class that the tables say can be made, by its rows of tables_1 -/
def lw_okq (q : MethodName × Nat) : Prop := (q.1.cls ≠ "java/lang/invoke/MethodHandle" ∧ q.1.cls ≠ "java/lang/invoke/VarHandle") ∧ Cond.instantiable q.1.cls q.2 ∈ tables_1 ∧ Cond.privateMethod q.1 ∈ tables_1 ∧ Cond.instanceMethod q.1 ∈ tables_1
theorem lw_p0 : lw_okq (⟨"LayeredCards$Game", "addCard", "(IIII)I"⟩, 15) := ⟨⟨by decide +kernel, by decide +kernel⟩, List.mem_of_getElem? (i := 69) (by decide +kernel), List.mem_of_getElem? (i := 394) (by decide +kernel), List.mem_of_getElem? (i := 395) (by decide +kernel)⟩
theorem lw_p1 : lw_okq (⟨"LayeredCards$Cards", "write", "(IIIII)V"⟩, 5) := ⟨⟨by decide +kernel, by decide +kernel⟩, List.mem_of_getElem? (i := 26) (by decide +kernel), List.mem_of_getElem? (i := 398) (by decide +kernel), List.mem_of_getElem? (i := 399) (by decide +kernel)⟩
theorem lw_p2 : lw_okq (⟨"LayeredCards$Tape", "append", "(I)Z"⟩, 8) := ⟨⟨by decide +kernel, by decide +kernel⟩, List.mem_of_getElem? (i := 298) (by decide +kernel), List.mem_of_getElem? (i := 410) (by decide +kernel), List.mem_of_getElem? (i := 411) (by decide +kernel)⟩
theorem lw_p3 : lw_okq (⟨"LayeredCards", "deckOnTape", "()I"⟩, 16) := ⟨⟨by decide +kernel, by decide +kernel⟩, List.mem_of_getElem? (i := 18) (by decide +kernel), List.mem_of_getElem? (i := 419) (by decide +kernel), List.mem_of_getElem? (i := 420) (by decide +kernel)⟩
theorem lw_p4 : lw_okq (⟨"LayeredCards$Tape", "readText", "()I"⟩, 8) := ⟨⟨by decide +kernel, by decide +kernel⟩, List.mem_of_getElem? (i := 298) (by decide +kernel), List.mem_of_getElem? (i := 423) (by decide +kernel), List.mem_of_getElem? (i := 424) (by decide +kernel)⟩
theorem lw_p5 : lw_okq (⟨"LayeredCards$Tape", "readLine", "()Z"⟩, 8) := ⟨⟨by decide +kernel, by decide +kernel⟩, List.mem_of_getElem? (i := 298) (by decide +kernel), List.mem_of_getElem? (i := 427) (by decide +kernel), List.mem_of_getElem? (i := 428) (by decide +kernel)⟩
theorem lw_p6 : lw_okq (⟨"LayeredCards$Tape", "readWord", "()I"⟩, 8) := ⟨⟨by decide +kernel, by decide +kernel⟩, List.mem_of_getElem? (i := 298) (by decide +kernel), List.mem_of_getElem? (i := 431) (by decide +kernel), List.mem_of_getElem? (i := 432) (by decide +kernel)⟩
theorem lw_p7 : lw_okq (⟨"LayeredCards$Tape", "lettersAlike", "(I)I"⟩, 8) := ⟨⟨by decide +kernel, by decide +kernel⟩, List.mem_of_getElem? (i := 298) (by decide +kernel), List.mem_of_getElem? (i := 435) (by decide +kernel), List.mem_of_getElem? (i := 436) (by decide +kernel)⟩
theorem lw_p8 : lw_okq (⟨"LayeredCards$Tape", "readDigit", "(I)I"⟩, 8) := ⟨⟨by decide +kernel, by decide +kernel⟩, List.mem_of_getElem? (i := 298) (by decide +kernel), List.mem_of_getElem? (i := 494) (by decide +kernel), List.mem_of_getElem? (i := 495) (by decide +kernel)⟩
theorem lw_p9 : lw_okq (⟨"LayeredCards$Tape", "skip", "(I)Z"⟩, 8) := ⟨⟨by decide +kernel, by decide +kernel⟩, List.mem_of_getElem? (i := 298) (by decide +kernel), List.mem_of_getElem? (i := 498) (by decide +kernel), List.mem_of_getElem? (i := 499) (by decide +kernel)⟩
theorem lw_p10 : lw_okq (⟨"LayeredCards$Game", "has", "(I)Z"⟩, 15) := ⟨⟨by decide +kernel, by decide +kernel⟩, List.mem_of_getElem? (i := 69) (by decide +kernel), List.mem_of_getElem? (i := 508) (by decide +kernel), List.mem_of_getElem? (i := 509) (by decide +kernel)⟩
theorem lw_p11 : lw_okq (⟨"LayeredCards$Game", "moveTo", "(II)V"⟩, 15) := ⟨⟨by decide +kernel, by decide +kernel⟩, List.mem_of_getElem? (i := 69) (by decide +kernel), List.mem_of_getElem? (i := 516) (by decide +kernel), List.mem_of_getElem? (i := 517) (by decide +kernel)⟩
theorem lw_p12 : lw_okq (⟨"LayeredCards$Game", "countIn", "(II)I"⟩, 15) := ⟨⟨by decide +kernel, by decide +kernel⟩, List.mem_of_getElem? (i := 69) (by decide +kernel), List.mem_of_getElem? (i := 534) (by decide +kernel), List.mem_of_getElem? (i := 535) (by decide +kernel)⟩
theorem lw_p13 : lw_okq (⟨"LayeredCards$Layering", "workOut", "(LLayeredCards$Game;)V"⟩, 7) := ⟨⟨by decide +kernel, by decide +kernel⟩, List.mem_of_getElem? (i := 177) (by decide +kernel), List.mem_of_getElem? (i := 543) (by decide +kernel), List.mem_of_getElem? (i := 544) (by decide +kernel)⟩
theorem lw_p14 : lw_okq (⟨"LayeredCards$Layering", "gather", "(LLayeredCards$Game;)V"⟩, 7) := ⟨⟨by decide +kernel, by decide +kernel⟩, List.mem_of_getElem? (i := 177) (by decide +kernel), List.mem_of_getElem? (i := 556) (by decide +kernel), List.mem_of_getElem? (i := 557) (by decide +kernel)⟩
theorem lw_p15 : lw_okq (⟨"LayeredCards$Layering", "countOn", "(II)V"⟩, 7) := ⟨⟨by decide +kernel, by decide +kernel⟩, List.mem_of_getElem? (i := 177) (by decide +kernel), List.mem_of_getElem? (i := 565) (by decide +kernel), List.mem_of_getElem? (i := 566) (by decide +kernel)⟩
def lw_privs_1 : List (MethodName × Nat) := [(⟨"LayeredCards$Game", "addCard", "(IIII)I"⟩, 15), (⟨"LayeredCards$Cards", "write", "(IIIII)V"⟩, 5), (⟨"LayeredCards$Tape", "append", "(I)Z"⟩, 8), (⟨"LayeredCards", "deckOnTape", "()I"⟩, 16), (⟨"LayeredCards$Tape", "readText", "()I"⟩, 8), (⟨"LayeredCards$Tape", "readLine", "()Z"⟩, 8), (⟨"LayeredCards$Tape", "readWord", "()I"⟩, 8), (⟨"LayeredCards$Tape", "lettersAlike", "(I)I"⟩, 8), (⟨"LayeredCards$Tape", "readDigit", "(I)I"⟩, 8), (⟨"LayeredCards$Tape", "skip", "(I)Z"⟩, 8), (⟨"LayeredCards$Game", "has", "(I)Z"⟩, 15), (⟨"LayeredCards$Game", "moveTo", "(II)V"⟩, 15), (⟨"LayeredCards$Game", "countIn", "(II)I"⟩, 15), (⟨"LayeredCards$Layering", "workOut", "(LLayeredCards$Game;)V"⟩, 7), (⟨"LayeredCards$Layering", "gather", "(LLayeredCards$Game;)V"⟩, 7), (⟨"LayeredCards$Layering", "countOn", "(II)V"⟩, 7)]
theorem lw_r1 : ∀ q ∈ lw_privs_1, lw_okq q := List.forall_mem_cons.mpr ⟨lw_p0, List.forall_mem_cons.mpr ⟨lw_p1, List.forall_mem_cons.mpr ⟨lw_p2, List.forall_mem_cons.mpr ⟨lw_p3, List.forall_mem_cons.mpr ⟨lw_p4, List.forall_mem_cons.mpr ⟨lw_p5, List.forall_mem_cons.mpr ⟨lw_p6, List.forall_mem_cons.mpr ⟨lw_p7, List.forall_mem_cons.mpr ⟨lw_p8, List.forall_mem_cons.mpr ⟨lw_p9, List.forall_mem_cons.mpr ⟨lw_p10, List.forall_mem_cons.mpr ⟨lw_p11, List.forall_mem_cons.mpr ⟨lw_p12, List.forall_mem_cons.mpr ⟨lw_p13, List.forall_mem_cons.mpr ⟨lw_p14, List.forall_mem_cons.mpr ⟨lw_p15, fun _ h => absurd h List.not_mem_nil⟩⟩⟩⟩⟩⟩⟩⟩⟩⟩⟩⟩⟩⟩⟩⟩
theorem lw_p16 : lw_okq (⟨"LayeredCards$Layering", "takeNext", "()I"⟩, 7) := ⟨⟨by decide +kernel, by decide +kernel⟩, List.mem_of_getElem? (i := 177) (by decide +kernel), List.mem_of_getElem? (i := 569) (by decide +kernel), List.mem_of_getElem? (i := 570) (by decide +kernel)⟩
theorem lw_p17 : lw_okq (⟨"LayeredCards$Layering", "waits", "(I)Z"⟩, 7) := ⟨⟨by decide +kernel, by decide +kernel⟩, List.mem_of_getElem? (i := 177) (by decide +kernel), List.mem_of_getElem? (i := 573) (by decide +kernel), List.mem_of_getElem? (i := 574) (by decide +kernel)⟩
theorem lw_p18 : lw_okq (⟨"LayeredCards$Layering", "use", "(I)V"⟩, 7) := ⟨⟨by decide +kernel, by decide +kernel⟩, List.mem_of_getElem? (i := 177) (by decide +kernel), List.mem_of_getElem? (i := 580) (by decide +kernel), List.mem_of_getElem? (i := 581) (by decide +kernel)⟩
theorem lw_p19 : lw_okq (⟨"LayeredCards", "isLayerOnTable", "(I)Z"⟩, 16) := ⟨⟨by decide +kernel, by decide +kernel⟩, List.mem_of_getElem? (i := 18) (by decide +kernel), List.mem_of_getElem? (i := 598) (by decide +kernel), List.mem_of_getElem? (i := 599) (by decide +kernel)⟩
theorem lw_p20 : lw_okq (⟨"LayeredCards$Event", "becomeTold", "(I)V"⟩, 7) := ⟨⟨by decide +kernel, by decide +kernel⟩, List.mem_of_getElem? (i := 209) (by decide +kernel), List.mem_of_getElem? (i := 608) (by decide +kernel), List.mem_of_getElem? (i := 609) (by decide +kernel)⟩
theorem lw_p21 : lw_okq (⟨"LayeredCards$Event", "become", "(III)V"⟩, 7) := ⟨⟨by decide +kernel, by decide +kernel⟩, List.mem_of_getElem? (i := 209) (by decide +kernel), List.mem_of_getElem? (i := 612) (by decide +kernel), List.mem_of_getElem? (i := 613) (by decide +kernel)⟩
theorem lw_p22 : lw_okq (⟨"LayeredCards$Event", "replaceBy", "(LLayeredCards$Game;)V"⟩, 7) := ⟨⟨by decide +kernel, by decide +kernel⟩, List.mem_of_getElem? (i := 209) (by decide +kernel), List.mem_of_getElem? (i := 617) (by decide +kernel), List.mem_of_getElem? (i := 618) (by decide +kernel)⟩
theorem lw_p23 : lw_okq (⟨"LayeredCards$Event", "fits", "(I)Z"⟩, 7) := ⟨⟨by decide +kernel, by decide +kernel⟩, List.mem_of_getElem? (i := 209) (by decide +kernel), List.mem_of_getElem? (i := 622) (by decide +kernel), List.mem_of_getElem? (i := 623) (by decide +kernel)⟩
theorem lw_p24 : lw_okq (⟨"LayeredCards$Event", "use", "(I)V"⟩, 7) := ⟨⟨by decide +kernel, by decide +kernel⟩, List.mem_of_getElem? (i := 209) (by decide +kernel), List.mem_of_getElem? (i := 627) (by decide +kernel), List.mem_of_getElem? (i := 628) (by decide +kernel)⟩
theorem lw_p25 : lw_okq (⟨"LayeredCards$Event", "told", "()I"⟩, 7) := ⟨⟨by decide +kernel, by decide +kernel⟩, List.mem_of_getElem? (i := 209) (by decide +kernel), List.mem_of_getElem? (i := 635) (by decide +kernel), List.mem_of_getElem? (i := 636) (by decide +kernel)⟩
theorem lw_p26 : lw_okq (⟨"LayeredCards$Game", "playCard", "(I)V"⟩, 15) := ⟨⟨by decide +kernel, by decide +kernel⟩, List.mem_of_getElem? (i := 69) (by decide +kernel), List.mem_of_getElem? (i := 646) (by decide +kernel), List.mem_of_getElem? (i := 647) (by decide +kernel)⟩
theorem lw_p27 : lw_okq (⟨"LayeredCards$Game", "push", "(I)Z"⟩, 15) := ⟨⟨by decide +kernel, by decide +kernel⟩, List.mem_of_getElem? (i := 69) (by decide +kernel), List.mem_of_getElem? (i := 650) (by decide +kernel), List.mem_of_getElem? (i := 651) (by decide +kernel)⟩
theorem lw_p28 : lw_okq (⟨"LayeredCards$Log", "empty", "()V"⟩, 4) := ⟨⟨by decide +kernel, by decide +kernel⟩, List.mem_of_getElem? (i := 275) (by decide +kernel), List.mem_of_getElem? (i := 663) (by decide +kernel), List.mem_of_getElem? (i := 664) (by decide +kernel)⟩
theorem lw_p29 : lw_okq (⟨"LayeredCards$Rules", "resolveTop", "(LLayeredCards$Game;LLayeredCards$Log;)V"⟩, 8) := ⟨⟨by decide +kernel, by decide +kernel⟩, List.mem_of_getElem? (i := 148) (by decide +kernel), List.mem_of_getElem? (i := 667) (by decide +kernel), List.mem_of_getElem? (i := 668) (by decide +kernel)⟩
theorem lw_p30 : lw_okq (⟨"LayeredCards$Game", "pop", "()I"⟩, 15) := ⟨⟨by decide +kernel, by decide +kernel⟩, List.mem_of_getElem? (i := 69) (by decide +kernel), List.mem_of_getElem? (i := 671) (by decide +kernel), List.mem_of_getElem? (i := 672) (by decide +kernel)⟩
theorem lw_p31 : lw_okq (⟨"LayeredCards$Log", "addThing", "(I)V"⟩, 4) := ⟨⟨by decide +kernel, by decide +kernel⟩, List.mem_of_getElem? (i := 275) (by decide +kernel), List.mem_of_getElem? (i := 675) (by decide +kernel), List.mem_of_getElem? (i := 676) (by decide +kernel)⟩
def lw_privs_2 : List (MethodName × Nat) := [(⟨"LayeredCards$Layering", "takeNext", "()I"⟩, 7), (⟨"LayeredCards$Layering", "waits", "(I)Z"⟩, 7), (⟨"LayeredCards$Layering", "use", "(I)V"⟩, 7), (⟨"LayeredCards", "isLayerOnTable", "(I)Z"⟩, 16), (⟨"LayeredCards$Event", "becomeTold", "(I)V"⟩, 7), (⟨"LayeredCards$Event", "become", "(III)V"⟩, 7), (⟨"LayeredCards$Event", "replaceBy", "(LLayeredCards$Game;)V"⟩, 7), (⟨"LayeredCards$Event", "fits", "(I)Z"⟩, 7), (⟨"LayeredCards$Event", "use", "(I)V"⟩, 7), (⟨"LayeredCards$Event", "told", "()I"⟩, 7), (⟨"LayeredCards$Game", "playCard", "(I)V"⟩, 15), (⟨"LayeredCards$Game", "push", "(I)Z"⟩, 15), (⟨"LayeredCards$Log", "empty", "()V"⟩, 4), (⟨"LayeredCards$Rules", "resolveTop", "(LLayeredCards$Game;LLayeredCards$Log;)V"⟩, 8), (⟨"LayeredCards$Game", "pop", "()I"⟩, 15), (⟨"LayeredCards$Log", "addThing", "(I)V"⟩, 4)]
theorem lw_r2 : ∀ q ∈ lw_privs_2, lw_okq q := List.forall_mem_cons.mpr ⟨lw_p16, List.forall_mem_cons.mpr ⟨lw_p17, List.forall_mem_cons.mpr ⟨lw_p18, List.forall_mem_cons.mpr ⟨lw_p19, List.forall_mem_cons.mpr ⟨lw_p20, List.forall_mem_cons.mpr ⟨lw_p21, List.forall_mem_cons.mpr ⟨lw_p22, List.forall_mem_cons.mpr ⟨lw_p23, List.forall_mem_cons.mpr ⟨lw_p24, List.forall_mem_cons.mpr ⟨lw_p25, List.forall_mem_cons.mpr ⟨lw_p26, List.forall_mem_cons.mpr ⟨lw_p27, List.forall_mem_cons.mpr ⟨lw_p28, List.forall_mem_cons.mpr ⟨lw_p29, List.forall_mem_cons.mpr ⟨lw_p30, List.forall_mem_cons.mpr ⟨lw_p31, fun _ h => absurd h List.not_mem_nil⟩⟩⟩⟩⟩⟩⟩⟩⟩⟩⟩⟩⟩⟩⟩⟩
theorem lw_p32 : lw_okq (⟨"LayeredCards$Rules", "happen", "(LLayeredCards$Game;LLayeredCards$Log;)V"⟩, 8) := ⟨⟨by decide +kernel, by decide +kernel⟩, List.mem_of_getElem? (i := 148) (by decide +kernel), List.mem_of_getElem? (i := 681) (by decide +kernel), List.mem_of_getElem? (i := 682) (by decide +kernel)⟩
theorem lw_p33 : lw_okq (⟨"LayeredCards$Log", "addEvent", "(I)V"⟩, 4) := ⟨⟨by decide +kernel, by decide +kernel⟩, List.mem_of_getElem? (i := 275) (by decide +kernel), List.mem_of_getElem? (i := 687) (by decide +kernel), List.mem_of_getElem? (i := 688) (by decide +kernel)⟩
theorem lw_p34 : lw_okq (⟨"LayeredCards$Game", "changeLife", "(II)V"⟩, 15) := ⟨⟨by decide +kernel, by decide +kernel⟩, List.mem_of_getElem? (i := 69) (by decide +kernel), List.mem_of_getElem? (i := 691) (by decide +kernel), List.mem_of_getElem? (i := 692) (by decide +kernel)⟩
theorem lw_p35 : lw_okq (⟨"LayeredCards$Game", "drawOne", "(I)V"⟩, 15) := ⟨⟨by decide +kernel, by decide +kernel⟩, List.mem_of_getElem? (i := 69) (by decide +kernel), List.mem_of_getElem? (i := 696) (by decide +kernel), List.mem_of_getElem? (i := 697) (by decide +kernel)⟩
theorem lw_p36 : lw_okq (⟨"LayeredCards$Game", "nthIn", "(III)I"⟩, 15) := ⟨⟨by decide +kernel, by decide +kernel⟩, List.mem_of_getElem? (i := 69) (by decide +kernel), List.mem_of_getElem? (i := 709) (by decide +kernel), List.mem_of_getElem? (i := 710) (by decide +kernel)⟩
theorem lw_p37 : lw_okq (⟨"LayeredCards$Rules", "castShadows", "(LLayeredCards$Game;)V"⟩, 8) := ⟨⟨by decide +kernel, by decide +kernel⟩, List.mem_of_getElem? (i := 148) (by decide +kernel), List.mem_of_getElem? (i := 713) (by decide +kernel), List.mem_of_getElem? (i := 714) (by decide +kernel)⟩
theorem lw_p38 : lw_okq (⟨"LayeredCards$Game", "layDown", "(I)V"⟩, 15) := ⟨⟨by decide +kernel, by decide +kernel⟩, List.mem_of_getElem? (i := 69) (by decide +kernel), List.mem_of_getElem? (i := 722) (by decide +kernel), List.mem_of_getElem? (i := 723) (by decide +kernel)⟩
theorem lw_p39 : lw_okq (⟨"LayeredCards$Rules", "stopTop", "(LLayeredCards$Game;)V"⟩, 8) := ⟨⟨by decide +kernel, by decide +kernel⟩, List.mem_of_getElem? (i := 148) (by decide +kernel), List.mem_of_getElem? (i := 727) (by decide +kernel), List.mem_of_getElem? (i := 728) (by decide +kernel)⟩
theorem lw_p40 : lw_okq (⟨"LayeredCards$Rules", "clearYoungest", "(LLayeredCards$Game;I)V"⟩, 8) := ⟨⟨by decide +kernel, by decide +kernel⟩, List.mem_of_getElem? (i := 148) (by decide +kernel), List.mem_of_getElem? (i := 731) (by decide +kernel), List.mem_of_getElem? (i := 732) (by decide +kernel)⟩
theorem lw_p41 : lw_okq (⟨"LayeredCards$Game", "takeOff", "(I)V"⟩, 15) := ⟨⟨by decide +kernel, by decide +kernel⟩, List.mem_of_getElem? (i := 69) (by decide +kernel), List.mem_of_getElem? (i := 735) (by decide +kernel), List.mem_of_getElem? (i := 736) (by decide +kernel)⟩
theorem lw_p42 : lw_okq (⟨"LayeredCards$Rules", "begin", "(III)V"⟩, 8) := ⟨⟨by decide +kernel, by decide +kernel⟩, List.mem_of_getElem? (i := 148) (by decide +kernel), List.mem_of_getElem? (i := 740) (by decide +kernel), List.mem_of_getElem? (i := 741) (by decide +kernel)⟩
theorem lw_p43 : lw_okq (⟨"LayeredCards$Rules", "runPile", "(LLayeredCards$Game;LLayeredCards$Log;)V"⟩, 8) := ⟨⟨by decide +kernel, by decide +kernel⟩, List.mem_of_getElem? (i := 148) (by decide +kernel), List.mem_of_getElem? (i := 749) (by decide +kernel), List.mem_of_getElem? (i := 750) (by decide +kernel)⟩
theorem lw_p44 : lw_okq (⟨"LayeredCards$Rules", "hasEnded", "(LLayeredCards$Game;)Z"⟩, 8) := ⟨⟨by decide +kernel, by decide +kernel⟩, List.mem_of_getElem? (i := 148) (by decide +kernel), List.mem_of_getElem? (i := 753) (by decide +kernel), List.mem_of_getElem? (i := 754) (by decide +kernel)⟩
theorem lw_p45 : lw_okq (⟨"LayeredCards$Game", "lostBits", "()I"⟩, 15) := ⟨⟨by decide +kernel, by decide +kernel⟩, List.mem_of_getElem? (i := 69) (by decide +kernel), List.mem_of_getElem? (i := 757) (by decide +kernel), List.mem_of_getElem? (i := 758) (by decide +kernel)⟩
theorem lw_p46 : lw_okq (⟨"LayeredCards$Past", "keep", "(ILLayeredCards$Game;)V"⟩, 5) := ⟨⟨by decide +kernel, by decide +kernel⟩, List.mem_of_getElem? (i := 154) (by decide +kernel), List.mem_of_getElem? (i := 761) (by decide +kernel), List.mem_of_getElem? (i := 762) (by decide +kernel)⟩
theorem lw_p47 : lw_okq (⟨"LayeredCards$Past", "sameAs", "(I)I"⟩, 5) := ⟨⟨by decide +kernel, by decide +kernel⟩, List.mem_of_getElem? (i := 154) (by decide +kernel), List.mem_of_getElem? (i := 767) (by decide +kernel), List.mem_of_getElem? (i := 768) (by decide +kernel)⟩
def lw_privs_3 : List (MethodName × Nat) := [(⟨"LayeredCards$Rules", "happen", "(LLayeredCards$Game;LLayeredCards$Log;)V"⟩, 8), (⟨"LayeredCards$Log", "addEvent", "(I)V"⟩, 4), (⟨"LayeredCards$Game", "changeLife", "(II)V"⟩, 15), (⟨"LayeredCards$Game", "drawOne", "(I)V"⟩, 15), (⟨"LayeredCards$Game", "nthIn", "(III)I"⟩, 15), (⟨"LayeredCards$Rules", "castShadows", "(LLayeredCards$Game;)V"⟩, 8), (⟨"LayeredCards$Game", "layDown", "(I)V"⟩, 15), (⟨"LayeredCards$Rules", "stopTop", "(LLayeredCards$Game;)V"⟩, 8), (⟨"LayeredCards$Rules", "clearYoungest", "(LLayeredCards$Game;I)V"⟩, 8), (⟨"LayeredCards$Game", "takeOff", "(I)V"⟩, 15), (⟨"LayeredCards$Rules", "begin", "(III)V"⟩, 8), (⟨"LayeredCards$Rules", "runPile", "(LLayeredCards$Game;LLayeredCards$Log;)V"⟩, 8), (⟨"LayeredCards$Rules", "hasEnded", "(LLayeredCards$Game;)Z"⟩, 8), (⟨"LayeredCards$Game", "lostBits", "()I"⟩, 15), (⟨"LayeredCards$Past", "keep", "(ILLayeredCards$Game;)V"⟩, 5), (⟨"LayeredCards$Past", "sameAs", "(I)I"⟩, 5)]
theorem lw_r3 : ∀ q ∈ lw_privs_3, lw_okq q := List.forall_mem_cons.mpr ⟨lw_p32, List.forall_mem_cons.mpr ⟨lw_p33, List.forall_mem_cons.mpr ⟨lw_p34, List.forall_mem_cons.mpr ⟨lw_p35, List.forall_mem_cons.mpr ⟨lw_p36, List.forall_mem_cons.mpr ⟨lw_p37, List.forall_mem_cons.mpr ⟨lw_p38, List.forall_mem_cons.mpr ⟨lw_p39, List.forall_mem_cons.mpr ⟨lw_p40, List.forall_mem_cons.mpr ⟨lw_p41, List.forall_mem_cons.mpr ⟨lw_p42, List.forall_mem_cons.mpr ⟨lw_p43, List.forall_mem_cons.mpr ⟨lw_p44, List.forall_mem_cons.mpr ⟨lw_p45, List.forall_mem_cons.mpr ⟨lw_p46, List.forall_mem_cons.mpr ⟨lw_p47, fun _ h => absurd h List.not_mem_nil⟩⟩⟩⟩⟩⟩⟩⟩⟩⟩⟩⟩⟩⟩⟩⟩
theorem lw_p48 : lw_okq (⟨"LayeredCards$Past", "samePiles", "(II)Z"⟩, 5) := ⟨⟨by decide +kernel, by decide +kernel⟩, List.mem_of_getElem? (i := 154) (by decide +kernel), List.mem_of_getElem? (i := 771) (by decide +kernel), List.mem_of_getElem? (i := 772) (by decide +kernel)⟩
theorem lw_p49 : lw_okq (⟨"LayeredCards$Game", "isQuiet", "()Z"⟩, 15) := ⟨⟨by decide +kernel, by decide +kernel⟩, List.mem_of_getElem? (i := 69) (by decide +kernel), List.mem_of_getElem? (i := 784) (by decide +kernel), List.mem_of_getElem? (i := 785) (by decide +kernel)⟩
theorem lw_p50 : lw_okq (⟨"LayeredCards$Rules", "takeTurn", "(LLayeredCards$Game;LLayeredCards$Log;)V"⟩, 8) := ⟨⟨by decide +kernel, by decide +kernel⟩, List.mem_of_getElem? (i := 148) (by decide +kernel), List.mem_of_getElem? (i := 789) (by decide +kernel), List.mem_of_getElem? (i := 790) (by decide +kernel)⟩
theorem lw_p51 : lw_okq (⟨"LayeredCards$Game", "copyFrom", "(LLayeredCards$Game;)V"⟩, 15) := ⟨⟨by decide +kernel, by decide +kernel⟩, List.mem_of_getElem? (i := 69) (by decide +kernel), List.mem_of_getElem? (i := 799) (by decide +kernel), List.mem_of_getElem? (i := 800) (by decide +kernel)⟩
theorem lw_p52 : lw_okq (⟨"LayeredCards", "worthPlayed", "(I)I"⟩, 16) := ⟨⟨by decide +kernel, by decide +kernel⟩, List.mem_of_getElem? (i := 18) (by decide +kernel), List.mem_of_getElem? (i := 808) (by decide +kernel), List.mem_of_getElem? (i := 809) (by decide +kernel)⟩
theorem lw_p53 : lw_okq (⟨"LayeredCards$Game", "worthTo", "(I)I"⟩, 15) := ⟨⟨by decide +kernel, by decide +kernel⟩, List.mem_of_getElem? (i := 69) (by decide +kernel), List.mem_of_getElem? (i := 812) (by decide +kernel), List.mem_of_getElem? (i := 813) (by decide +kernel)⟩
theorem lw_p54 : lw_okq (⟨"LayeredCards", "runWithout", "(I)V"⟩, 16) := ⟨⟨by decide +kernel, by decide +kernel⟩, List.mem_of_getElem? (i := 18) (by decide +kernel), List.mem_of_getElem? (i := 832) (by decide +kernel), List.mem_of_getElem? (i := 833) (by decide +kernel)⟩
theorem lw_p55 : lw_okq (⟨"LayeredCardsModel", "add", "(IIIII)I"⟩, 35) := ⟨⟨by decide +kernel, by decide +kernel⟩, List.mem_of_getElem? (i := 882) (by decide +kernel), List.mem_of_getElem? (i := 1003) (by decide +kernel), List.mem_of_getElem? (i := 1004) (by decide +kernel)⟩
theorem lw_p56 : lw_okq (⟨"LayeredCardsModel", "lines", "(Z)I"⟩, 35) := ⟨⟨by decide +kernel, by decide +kernel⟩, List.mem_of_getElem? (i := 882) (by decide +kernel), List.mem_of_getElem? (i := 1015) (by decide +kernel), List.mem_of_getElem? (i := 1016) (by decide +kernel)⟩
theorem lw_p57 : lw_okq (⟨"LayeredCardsModel", "line", "(Z)V"⟩, 35) := ⟨⟨by decide +kernel, by decide +kernel⟩, List.mem_of_getElem? (i := 882) (by decide +kernel), List.mem_of_getElem? (i := 1019) (by decide +kernel), List.mem_of_getElem? (i := 1020) (by decide +kernel)⟩
theorem lw_p58 : lw_okq (⟨"LayeredCardsModel", "wordHere", "()I"⟩, 35) := ⟨⟨by decide +kernel, by decide +kernel⟩, List.mem_of_getElem? (i := 882) (by decide +kernel), List.mem_of_getElem? (i := 1023) (by decide +kernel), List.mem_of_getElem? (i := 1024) (by decide +kernel)⟩
theorem lw_p59 : lw_okq (⟨"LayeredCardsModel", "goes", "(Ljava/lang/String;)I"⟩, 35) := ⟨⟨by decide +kernel, by decide +kernel⟩, List.mem_of_getElem? (i := 882) (by decide +kernel), List.mem_of_getElem? (i := 1045) (by decide +kernel), List.mem_of_getElem? (i := 1046) (by decide +kernel)⟩
theorem lw_p60 : lw_okq (⟨"LayeredCardsModel", "digit", "(I)I"⟩, 35) := ⟨⟨by decide +kernel, by decide +kernel⟩, List.mem_of_getElem? (i := 882) (by decide +kernel), List.mem_of_getElem? (i := 1051) (by decide +kernel), List.mem_of_getElem? (i := 1052) (by decide +kernel)⟩
theorem lw_p61 : lw_okq (⟨"LayeredCardsModel", "must", "(II)I"⟩, 35) := ⟨⟨by decide +kernel, by decide +kernel⟩, List.mem_of_getElem? (i := 882) (by decide +kernel), List.mem_of_getElem? (i := 1055) (by decide +kernel), List.mem_of_getElem? (i := 1056) (by decide +kernel)⟩
theorem lw_p62 : lw_okq (⟨"LayeredCardsModel", "sees", "(II)Z"⟩, 35) := ⟨⟨by decide +kernel, by decide +kernel⟩, List.mem_of_getElem? (i := 882) (by decide +kernel), List.mem_of_getElem? (i := 1059) (by decide +kernel), List.mem_of_getElem? (i := 1060) (by decide +kernel)⟩
theorem lw_p63 : lw_okq (⟨"LayeredCardsModel", "isCard", "(I)Z"⟩, 35) := ⟨⟨by decide +kernel, by decide +kernel⟩, List.mem_of_getElem? (i := 882) (by decide +kernel), List.mem_of_getElem? (i := 1067) (by decide +kernel), List.mem_of_getElem? (i := 1068) (by decide +kernel)⟩
def lw_privs_4 : List (MethodName × Nat) := [(⟨"LayeredCards$Past", "samePiles", "(II)Z"⟩, 5), (⟨"LayeredCards$Game", "isQuiet", "()Z"⟩, 15), (⟨"LayeredCards$Rules", "takeTurn", "(LLayeredCards$Game;LLayeredCards$Log;)V"⟩, 8), (⟨"LayeredCards$Game", "copyFrom", "(LLayeredCards$Game;)V"⟩, 15), (⟨"LayeredCards", "worthPlayed", "(I)I"⟩, 16), (⟨"LayeredCards$Game", "worthTo", "(I)I"⟩, 15), (⟨"LayeredCards", "runWithout", "(I)V"⟩, 16), (⟨"LayeredCardsModel", "add", "(IIIII)I"⟩, 35), (⟨"LayeredCardsModel", "lines", "(Z)I"⟩, 35), (⟨"LayeredCardsModel", "line", "(Z)V"⟩, 35), (⟨"LayeredCardsModel", "wordHere", "()I"⟩, 35), (⟨"LayeredCardsModel", "goes", "(Ljava/lang/String;)I"⟩, 35), (⟨"LayeredCardsModel", "digit", "(I)I"⟩, 35), (⟨"LayeredCardsModel", "must", "(II)I"⟩, 35), (⟨"LayeredCardsModel", "sees", "(II)Z"⟩, 35), (⟨"LayeredCardsModel", "isCard", "(I)Z"⟩, 35)]
theorem lw_r4 : ∀ q ∈ lw_privs_4, lw_okq q := List.forall_mem_cons.mpr ⟨lw_p48, List.forall_mem_cons.mpr ⟨lw_p49, List.forall_mem_cons.mpr ⟨lw_p50, List.forall_mem_cons.mpr ⟨lw_p51, List.forall_mem_cons.mpr ⟨lw_p52, List.forall_mem_cons.mpr ⟨lw_p53, List.forall_mem_cons.mpr ⟨lw_p54, List.forall_mem_cons.mpr ⟨lw_p55, List.forall_mem_cons.mpr ⟨lw_p56, List.forall_mem_cons.mpr ⟨lw_p57, List.forall_mem_cons.mpr ⟨lw_p58, List.forall_mem_cons.mpr ⟨lw_p59, List.forall_mem_cons.mpr ⟨lw_p60, List.forall_mem_cons.mpr ⟨lw_p61, List.forall_mem_cons.mpr ⟨lw_p62, List.forall_mem_cons.mpr ⟨lw_p63, fun _ h => absurd h List.not_mem_nil⟩⟩⟩⟩⟩⟩⟩⟩⟩⟩⟩⟩⟩⟩⟩⟩
theorem lw_p64 : lw_okq (⟨"LayeredCardsModel", "isAt", "(II)Z"⟩, 35) := ⟨⟨by decide +kernel, by decide +kernel⟩, List.mem_of_getElem? (i := 882) (by decide +kernel), List.mem_of_getElem? (i := 1071) (by decide +kernel), List.mem_of_getElem? (i := 1072) (by decide +kernel)⟩
theorem lw_p65 : lw_okq (⟨"LayeredCardsModel", "manyAt", "(II)I"⟩, 35) := ⟨⟨by decide +kernel, by decide +kernel⟩, List.mem_of_getElem? (i := 882) (by decide +kernel), List.mem_of_getElem? (i := 1092) (by decide +kernel), List.mem_of_getElem? (i := 1093) (by decide +kernel)⟩
theorem lw_p66 : lw_okq (⟨"LayeredCardsModel", "valueNow", "(I)I"⟩, 35) := ⟨⟨by decide +kernel, by decide +kernel⟩, List.mem_of_getElem? (i := 882) (by decide +kernel), List.mem_of_getElem? (i := 1100) (by decide +kernel), List.mem_of_getElem? (i := 1101) (by decide +kernel)⟩
theorem lw_p67 : lw_okq (⟨"LayeredCardsModel", "layered", "()V"⟩, 35) := ⟨⟨by decide +kernel, by decide +kernel⟩, List.mem_of_getElem? (i := 882) (by decide +kernel), List.mem_of_getElem? (i := 1104) (by decide +kernel), List.mem_of_getElem? (i := 1105) (by decide +kernel)⟩
theorem lw_p68 : lw_okq (⟨"LayeredCardsModel", "nextLayer", "(Z)I"⟩, 35) := ⟨⟨by decide +kernel, by decide +kernel⟩, List.mem_of_getElem? (i := 882) (by decide +kernel), List.mem_of_getElem? (i := 1108) (by decide +kernel), List.mem_of_getElem? (i := 1109) (by decide +kernel)⟩
theorem lw_p69 : lw_okq (⟨"LayeredCardsModel", "isLayer", "(I)Z"⟩, 35) := ⟨⟨by decide +kernel, by decide +kernel⟩, List.mem_of_getElem? (i := 882) (by decide +kernel), List.mem_of_getElem? (i := 1112) (by decide +kernel), List.mem_of_getElem? (i := 1113) (by decide +kernel)⟩
theorem lw_p70 : lw_okq (⟨"LayeredCardsModel", "isUsed", "(I)Z"⟩, 35) := ⟨⟨by decide +kernel, by decide +kernel⟩, List.mem_of_getElem? (i := 882) (by decide +kernel), List.mem_of_getElem? (i := 1116) (by decide +kernel), List.mem_of_getElem? (i := 1117) (by decide +kernel)⟩
theorem lw_p71 : lw_okq (⟨"LayeredCardsModel", "isFree", "(I)Z"⟩, 35) := ⟨⟨by decide +kernel, by decide +kernel⟩, List.mem_of_getElem? (i := 882) (by decide +kernel), List.mem_of_getElem? (i := 1120) (by decide +kernel), List.mem_of_getElem? (i := 1121) (by decide +kernel)⟩
theorem lw_p72 : lw_okq (⟨"LayeredCardsModel", "hangs", "(II)Z"⟩, 35) := ⟨⟨by decide +kernel, by decide +kernel⟩, List.mem_of_getElem? (i := 882) (by decide +kernel), List.mem_of_getElem? (i := 1124) (by decide +kernel), List.mem_of_getElem? (i := 1125) (by decide +kernel)⟩
theorem lw_p73 : lw_okq (⟨"LayeredCardsModel", "use", "(I)V"⟩, 35) := ⟨⟨by decide +kernel, by decide +kernel⟩, List.mem_of_getElem? (i := 882) (by decide +kernel), List.mem_of_getElem? (i := 1128) (by decide +kernel), List.mem_of_getElem? (i := 1129) (by decide +kernel)⟩
theorem lw_p74 : lw_okq (⟨"LayeredCardsModel", "replaced", "(III)V"⟩, 35) := ⟨⟨by decide +kernel, by decide +kernel⟩, List.mem_of_getElem? (i := 882) (by decide +kernel), List.mem_of_getElem? (i := 1147) (by decide +kernel), List.mem_of_getElem? (i := 1148) (by decide +kernel)⟩
theorem lw_p75 : lw_okq (⟨"LayeredCardsModel", "nextReplacer", "()I"⟩, 35) := ⟨⟨by decide +kernel, by decide +kernel⟩, List.mem_of_getElem? (i := 882) (by decide +kernel), List.mem_of_getElem? (i := 1151) (by decide +kernel), List.mem_of_getElem? (i := 1152) (by decide +kernel)⟩
theorem lw_p76 : lw_okq (⟨"LayeredCardsModel", "fits", "(I)Z"⟩, 35) := ⟨⟨by decide +kernel, by decide +kernel⟩, List.mem_of_getElem? (i := 882) (by decide +kernel), List.mem_of_getElem? (i := 1155) (by decide +kernel), List.mem_of_getElem? (i := 1156) (by decide +kernel)⟩
theorem lw_p77 : lw_okq (⟨"LayeredCardsModel", "wasUsed", "(I)Z"⟩, 35) := ⟨⟨by decide +kernel, by decide +kernel⟩, List.mem_of_getElem? (i := 882) (by decide +kernel), List.mem_of_getElem? (i := 1159) (by decide +kernel), List.mem_of_getElem? (i := 1160) (by decide +kernel)⟩
theorem lw_p78 : lw_okq (⟨"LayeredCardsModel", "playIt", "(I)V"⟩, 35) := ⟨⟨by decide +kernel, by decide +kernel⟩, List.mem_of_getElem? (i := 882) (by decide +kernel), List.mem_of_getElem? (i := 1167) (by decide +kernel), List.mem_of_getElem? (i := 1168) (by decide +kernel)⟩
theorem lw_p79 : lw_okq (⟨"LayeredCardsModel", "push", "(I)V"⟩, 35) := ⟨⟨by decide +kernel, by decide +kernel⟩, List.mem_of_getElem? (i := 882) (by decide +kernel), List.mem_of_getElem? (i := 1171) (by decide +kernel), List.mem_of_getElem? (i := 1172) (by decide +kernel)⟩
def lw_privs_5 : List (MethodName × Nat) := [(⟨"LayeredCardsModel", "isAt", "(II)Z"⟩, 35), (⟨"LayeredCardsModel", "manyAt", "(II)I"⟩, 35), (⟨"LayeredCardsModel", "valueNow", "(I)I"⟩, 35), (⟨"LayeredCardsModel", "layered", "()V"⟩, 35), (⟨"LayeredCardsModel", "nextLayer", "(Z)I"⟩, 35), (⟨"LayeredCardsModel", "isLayer", "(I)Z"⟩, 35), (⟨"LayeredCardsModel", "isUsed", "(I)Z"⟩, 35), (⟨"LayeredCardsModel", "isFree", "(I)Z"⟩, 35), (⟨"LayeredCardsModel", "hangs", "(II)Z"⟩, 35), (⟨"LayeredCardsModel", "use", "(I)V"⟩, 35), (⟨"LayeredCardsModel", "replaced", "(III)V"⟩, 35), (⟨"LayeredCardsModel", "nextReplacer", "()I"⟩, 35), (⟨"LayeredCardsModel", "fits", "(I)Z"⟩, 35), (⟨"LayeredCardsModel", "wasUsed", "(I)Z"⟩, 35), (⟨"LayeredCardsModel", "playIt", "(I)V"⟩, 35), (⟨"LayeredCardsModel", "push", "(I)V"⟩, 35)]
theorem lw_r5 : ∀ q ∈ lw_privs_5, lw_okq q := List.forall_mem_cons.mpr ⟨lw_p64, List.forall_mem_cons.mpr ⟨lw_p65, List.forall_mem_cons.mpr ⟨lw_p66, List.forall_mem_cons.mpr ⟨lw_p67, List.forall_mem_cons.mpr ⟨lw_p68, List.forall_mem_cons.mpr ⟨lw_p69, List.forall_mem_cons.mpr ⟨lw_p70, List.forall_mem_cons.mpr ⟨lw_p71, List.forall_mem_cons.mpr ⟨lw_p72, List.forall_mem_cons.mpr ⟨lw_p73, List.forall_mem_cons.mpr ⟨lw_p74, List.forall_mem_cons.mpr ⟨lw_p75, List.forall_mem_cons.mpr ⟨lw_p76, List.forall_mem_cons.mpr ⟨lw_p77, List.forall_mem_cons.mpr ⟨lw_p78, List.forall_mem_cons.mpr ⟨lw_p79, fun _ h => absurd h List.not_mem_nil⟩⟩⟩⟩⟩⟩⟩⟩⟩⟩⟩⟩⟩⟩⟩⟩
theorem lw_p80 : lw_okq (⟨"LayeredCardsModel", "traces", "()V"⟩, 35) := ⟨⟨by decide +kernel, by decide +kernel⟩, List.mem_of_getElem? (i := 882) (by decide +kernel), List.mem_of_getElem? (i := 1183) (by decide +kernel), List.mem_of_getElem? (i := 1184) (by decide +kernel)⟩
theorem lw_p81 : lw_okq (⟨"LayeredCardsModel", "resolveTop", "()V"⟩, 35) := ⟨⟨by decide +kernel, by decide +kernel⟩, List.mem_of_getElem? (i := 882) (by decide +kernel), List.mem_of_getElem? (i := 1187) (by decide +kernel), List.mem_of_getElem? (i := 1188) (by decide +kernel)⟩
theorem lw_p82 : lw_okq (⟨"LayeredCardsModel", "event", "(III)V"⟩, 35) := ⟨⟨by decide +kernel, by decide +kernel⟩, List.mem_of_getElem? (i := 882) (by decide +kernel), List.mem_of_getElem? (i := 1191) (by decide +kernel), List.mem_of_getElem? (i := 1192) (by decide +kernel)⟩
theorem lw_p83 : lw_okq (⟨"LayeredCardsModel", "drawOne", "()V"⟩, 35) := ⟨⟨by decide +kernel, by decide +kernel⟩, List.mem_of_getElem? (i := 882) (by decide +kernel), List.mem_of_getElem? (i := 1195) (by decide +kernel), List.mem_of_getElem? (i := 1196) (by decide +kernel)⟩
theorem lw_p84 : lw_okq (⟨"LayeredCardsModel", "draw", "(I)I"⟩, 35) := ⟨⟨by decide +kernel, by decide +kernel⟩, List.mem_of_getElem? (i := 882) (by decide +kernel), List.mem_of_getElem? (i := 1199) (by decide +kernel), List.mem_of_getElem? (i := 1200) (by decide +kernel)⟩
theorem lw_p85 : lw_okq (⟨"LayeredCardsModel", "echoes", "()V"⟩, 35) := ⟨⟨by decide +kernel, by decide +kernel⟩, List.mem_of_getElem? (i := 882) (by decide +kernel), List.mem_of_getElem? (i := 1204) (by decide +kernel), List.mem_of_getElem? (i := 1205) (by decide +kernel)⟩
theorem lw_p86 : lw_okq (⟨"LayeredCardsModel", "answer", "(I)V"⟩, 35) := ⟨⟨by decide +kernel, by decide +kernel⟩, List.mem_of_getElem? (i := 882) (by decide +kernel), List.mem_of_getElem? (i := 1208) (by decide +kernel), List.mem_of_getElem? (i := 1209) (by decide +kernel)⟩
theorem lw_p87 : lw_okq (⟨"LayeredCardsModel", "stop", "()V"⟩, 35) := ⟨⟨by decide +kernel, by decide +kernel⟩, List.mem_of_getElem? (i := 882) (by decide +kernel), List.mem_of_getElem? (i := 1212) (by decide +kernel), List.mem_of_getElem? (i := 1213) (by decide +kernel)⟩
theorem lw_p88 : lw_okq (⟨"LayeredCardsModel", "clear", "(I)V"⟩, 35) := ⟨⟨by decide +kernel, by decide +kernel⟩, List.mem_of_getElem? (i := 882) (by decide +kernel), List.mem_of_getElem? (i := 1216) (by decide +kernel), List.mem_of_getElem? (i := 1217) (by decide +kernel)⟩
theorem lw_p89 : lw_okq (⟨"LayeredCardsModel", "runIt", "()I"⟩, 35) := ⟨⟨by decide +kernel, by decide +kernel⟩, List.mem_of_getElem? (i := 882) (by decide +kernel), List.mem_of_getElem? (i := 1224) (by decide +kernel), List.mem_of_getElem? (i := 1225) (by decide +kernel)⟩
theorem lw_p90 : lw_okq (⟨"LayeredCardsModel", "isLost", "()Z"⟩, 35) := ⟨⟨by decide +kernel, by decide +kernel⟩, List.mem_of_getElem? (i := 882) (by decide +kernel), List.mem_of_getElem? (i := 1228) (by decide +kernel), List.mem_of_getElem? (i := 1229) (by decide +kernel)⟩
theorem lw_p91 : lw_okq (⟨"LayeredCardsModel", "see", "(I)V"⟩, 35) := ⟨⟨by decide +kernel, by decide +kernel⟩, List.mem_of_getElem? (i := 882) (by decide +kernel), List.mem_of_getElem? (i := 1232) (by decide +kernel), List.mem_of_getElem? (i := 1233) (by decide +kernel)⟩
theorem lw_p92 : lw_okq (⟨"LayeredCardsModel", "sameAs", "(I)I"⟩, 35) := ⟨⟨by decide +kernel, by decide +kernel⟩, List.mem_of_getElem? (i := 882) (by decide +kernel), List.mem_of_getElem? (i := 1236) (by decide +kernel), List.mem_of_getElem? (i := 1237) (by decide +kernel)⟩
theorem lw_p93 : lw_okq (⟨"LayeredCardsModel", "turnIt", "()V"⟩, 35) := ⟨⟨by decide +kernel, by decide +kernel⟩, List.mem_of_getElem? (i := 882) (by decide +kernel), List.mem_of_getElem? (i := 1248) (by decide +kernel), List.mem_of_getElem? (i := 1249) (by decide +kernel)⟩
theorem lw_p94 : lw_okq (⟨"LayeredCardsModel", "greatestIn", "(I)I"⟩, 35) := ⟨⟨by decide +kernel, by decide +kernel⟩, List.mem_of_getElem? (i := 882) (by decide +kernel), List.mem_of_getElem? (i := 1252) (by decide +kernel), List.mem_of_getElem? (i := 1253) (by decide +kernel)⟩
theorem lw_p95 : lw_okq (⟨"LayeredCardsModel", "worthIf", "(II)I"⟩, 35) := ⟨⟨by decide +kernel, by decide +kernel⟩, List.mem_of_getElem? (i := 882) (by decide +kernel), List.mem_of_getElem? (i := 1267) (by decide +kernel), List.mem_of_getElem? (i := 1268) (by decide +kernel)⟩
def lw_privs_6 : List (MethodName × Nat) := [(⟨"LayeredCardsModel", "traces", "()V"⟩, 35), (⟨"LayeredCardsModel", "resolveTop", "()V"⟩, 35), (⟨"LayeredCardsModel", "event", "(III)V"⟩, 35), (⟨"LayeredCardsModel", "drawOne", "()V"⟩, 35), (⟨"LayeredCardsModel", "draw", "(I)I"⟩, 35), (⟨"LayeredCardsModel", "echoes", "()V"⟩, 35), (⟨"LayeredCardsModel", "answer", "(I)V"⟩, 35), (⟨"LayeredCardsModel", "stop", "()V"⟩, 35), (⟨"LayeredCardsModel", "clear", "(I)V"⟩, 35), (⟨"LayeredCardsModel", "runIt", "()I"⟩, 35), (⟨"LayeredCardsModel", "isLost", "()Z"⟩, 35), (⟨"LayeredCardsModel", "see", "(I)V"⟩, 35), (⟨"LayeredCardsModel", "sameAs", "(I)I"⟩, 35), (⟨"LayeredCardsModel", "turnIt", "()V"⟩, 35), (⟨"LayeredCardsModel", "greatestIn", "(I)I"⟩, 35), (⟨"LayeredCardsModel", "worthIf", "(II)I"⟩, 35)]
theorem lw_r6 : ∀ q ∈ lw_privs_6, lw_okq q := List.forall_mem_cons.mpr ⟨lw_p80, List.forall_mem_cons.mpr ⟨lw_p81, List.forall_mem_cons.mpr ⟨lw_p82, List.forall_mem_cons.mpr ⟨lw_p83, List.forall_mem_cons.mpr ⟨lw_p84, List.forall_mem_cons.mpr ⟨lw_p85, List.forall_mem_cons.mpr ⟨lw_p86, List.forall_mem_cons.mpr ⟨lw_p87, List.forall_mem_cons.mpr ⟨lw_p88, List.forall_mem_cons.mpr ⟨lw_p89, List.forall_mem_cons.mpr ⟨lw_p90, List.forall_mem_cons.mpr ⟨lw_p91, List.forall_mem_cons.mpr ⟨lw_p92, List.forall_mem_cons.mpr ⟨lw_p93, List.forall_mem_cons.mpr ⟨lw_p94, List.forall_mem_cons.mpr ⟨lw_p95, fun _ h => absurd h List.not_mem_nil⟩⟩⟩⟩⟩⟩⟩⟩⟩⟩⟩⟩⟩⟩⟩⟩
theorem lw_p96 : lw_okq (⟨"LayeredCardsModel", "worthOf", "(I)I"⟩, 35) := ⟨⟨by decide +kernel, by decide +kernel⟩, List.mem_of_getElem? (i := 882) (by decide +kernel), List.mem_of_getElem? (i := 1271) (by decide +kernel), List.mem_of_getElem? (i := 1272) (by decide +kernel)⟩
theorem lw_p97 : lw_okq (⟨"LayeredCardsModel", "reach", "(IIII)I"⟩, 35) := ⟨⟨by decide +kernel, by decide +kernel⟩, List.mem_of_getElem? (i := 882) (by decide +kernel), List.mem_of_getElem? (i := 1303) (by decide +kernel), List.mem_of_getElem? (i := 1304) (by decide +kernel)⟩
theorem lw_p98 : lw_okq (⟨"LayeredCardsModel", "toldBy", "(I)I"⟩, 35) := ⟨⟨by decide +kernel, by decide +kernel⟩, List.mem_of_getElem? (i := 882) (by decide +kernel), List.mem_of_getElem? (i := 1330) (by decide +kernel), List.mem_of_getElem? (i := 1331) (by decide +kernel)⟩
def lw_privs_7 : List (MethodName × Nat) := [(⟨"LayeredCardsModel", "worthOf", "(I)I"⟩, 35), (⟨"LayeredCardsModel", "reach", "(IIII)I"⟩, 35), (⟨"LayeredCardsModel", "toldBy", "(I)I"⟩, 35)]
theorem lw_r7 : ∀ q ∈ lw_privs_7, lw_okq q := List.forall_mem_cons.mpr ⟨lw_p96, List.forall_mem_cons.mpr ⟨lw_p97, List.forall_mem_cons.mpr ⟨lw_p98, fun _ h => absurd h List.not_mem_nil⟩⟩⟩
def lw_privs : List (MethodName × Nat) := lw_privs_1 ++ (lw_privs_2 ++ (lw_privs_3 ++ (lw_privs_4 ++ (lw_privs_5 ++ (lw_privs_6 ++ (lw_privs_7))))))
def lw_tbl : List Cond := k2_sels lw_privs ++ tables_1
theorem lw_privs_ok : ∀ q ∈ lw_privs, lw_okq q := by
  show ∀ q ∈ lw_privs_1 ++ (lw_privs_2 ++ (lw_privs_3 ++ (lw_privs_4 ++ (lw_privs_5 ++ (lw_privs_6 ++ (lw_privs_7)))))), lw_okq q
  exact List.forall_mem_append.mpr ⟨lw_r1, List.forall_mem_append.mpr ⟨lw_r2, List.forall_mem_append.mpr ⟨lw_r3, List.forall_mem_append.mpr ⟨lw_r4, List.forall_mem_append.mpr ⟨lw_r5, List.forall_mem_append.mpr ⟨lw_r6, lw_r7⟩⟩⟩⟩⟩⟩
-- ===== end of PART A; names =====
def R_K : String := "LayeredCards$Cards"
def F_K : u_T := fun k => match k with
  | 0 => ("LayeredCards$Cards", "kinds", "[I", true)
  | 1 => ("LayeredCards$Cards", "owners", "[I", true)
  | 2 => ("LayeredCards$Cards", "vs", "[I", true)
  | 3 => ("LayeredCards$Cards", "ws", "[I", true)
  | _ => ("LayeredCards$Cards", "as", "[I", true)
def ft_K : Nat → FieldType := fun k => match k with
  | 0 => .array .int
  | 1 => .array .int
  | 2 => .array .int
  | 3 => .array .int
  | _ => .array .int
def R_E : String := "LayeredCards$Event"
def F_E : u_T := fun k => match k with
  | 0 => ("LayeredCards$Event", "cards", "LLayeredCards$Cards;", true)
  | 1 => ("LayeredCards$Event", "type", "I", false)
  | 2 => ("LayeredCards$Event", "player", "I", false)
  | 3 => ("LayeredCards$Event", "amount", "I", false)
  | 4 => ("LayeredCards$Event", "used", "[I", true)
  | 5 => ("LayeredCards$Event", "usedCount", "I", false)
  | _ => ("LayeredCards$Event", "usedBits", "I", false)
def ft_E : Nat → FieldType := fun k => match k with
  | 0 => .object "LayeredCards$Cards"
  | 1 => .int
  | 2 => .int
  | 3 => .int
  | 4 => .array .int
  | 5 => .int
  | _ => .int
def R_G : String := "LayeredCards$Game"
def F_G : u_T := fun k => match k with
  | 0 => ("LayeredCards$Game", "cards", "LLayeredCards$Cards;", true)
  | 1 => ("LayeredCards$Game", "lives", "[I", true)
  | 2 => ("LayeredCards$Game", "bases", "[I", true)
  | 3 => ("LayeredCards$Game", "places", "[I", true)
  | 4 => ("LayeredCards$Game", "ages", "[I", true)
  | 5 => ("LayeredCards$Game", "table", "[I", true)
  | 6 => ("LayeredCards$Game", "pile", "[I", true)
  | 7 => ("LayeredCards$Game", "cardCount", "I", false)
  | 8 => ("LayeredCards$Game", "laid", "I", false)
  | 9 => ("LayeredCards$Game", "height", "I", false)
  | 10 => ("LayeredCards$Game", "clock", "I", false)
  | 11 => ("LayeredCards$Game", "active", "I", false)
  | 12 => ("LayeredCards$Game", "turns", "I", false)
  | 13 => ("LayeredCards$Game", "seed", "I", false)
  | _ => ("LayeredCards$Game", "moves", "I", false)
def ft_G : Nat → FieldType := fun k => match k with
  | 0 => .object "LayeredCards$Cards"
  | 1 => .array .int
  | 2 => .array .int
  | 3 => .array .int
  | 4 => .array .int
  | 5 => .array .int
  | 6 => .array .int
  | 7 => .int
  | 8 => .int
  | 9 => .int
  | 10 => .int
  | 11 => .int
  | 12 => .int
  | 13 => .int
  | _ => .int
def R_Y : String := "LayeredCards$Layering"
def F_Y : u_T := fun k => match k with
  | 0 => ("LayeredCards$Layering", "cards", "LLayeredCards$Cards;", true)
  | 1 => ("LayeredCards$Layering", "values", "[I", true)
  | 2 => ("LayeredCards$Layering", "order", "[I", true)
  | 3 => ("LayeredCards$Layering", "usedCount", "I", false)
  | 4 => ("LayeredCards$Layering", "open", "[I", true)
  | 5 => ("LayeredCards$Layering", "openOn", "[I", true)
  | _ => ("LayeredCards$Layering", "openCount", "I", false)
def ft_Y : Nat → FieldType := fun k => match k with
  | 0 => .object "LayeredCards$Cards"
  | 1 => .array .int
  | 2 => .array .int
  | 3 => .int
  | 4 => .array .int
  | 5 => .array .int
  | _ => .int
def R_O : String := "LayeredCards$Log"
def F_O : u_T := fun k => match k with
  | 0 => ("LayeredCards$Log", "things", "[I", true)
  | 1 => ("LayeredCards$Log", "events", "[I", true)
  | 2 => ("LayeredCards$Log", "thingCount", "I", false)
  | _ => ("LayeredCards$Log", "eventCount", "I", false)
def ft_O : Nat → FieldType := fun k => match k with
  | 0 => .array .int
  | 1 => .array .int
  | 2 => .int
  | _ => .int
def R_P : String := "LayeredCards$Past"
def F_P : u_T := fun k => match k with
  | 0 => ("LayeredCards$Past", "moves", "[I", true)
  | 1 => ("LayeredCards$Past", "lives0", "[I", true)
  | 2 => ("LayeredCards$Past", "lives1", "[I", true)
  | 3 => ("LayeredCards$Past", "heights", "[I", true)
  | _ => ("LayeredCards$Past", "piles", "[J", true)
def ft_P : Nat → FieldType := fun k => match k with
  | 0 => .array .int
  | 1 => .array .int
  | 2 => .array .int
  | 3 => .array .int
  | _ => .array .long
def R_R : String := "LayeredCards$Rules"
def F_R : u_T := fun k => match k with
  | 0 => ("LayeredCards$Rules", "cards", "LLayeredCards$Cards;", true)
  | 1 => ("LayeredCards$Rules", "layering", "LLayeredCards$Layering;", true)
  | 2 => ("LayeredCards$Rules", "event", "LLayeredCards$Event;", true)
  | 3 => ("LayeredCards$Rules", "past", "LLayeredCards$Past;", true)
  | 4 => ("LayeredCards$Rules", "end", "I", false)
  | 5 => ("LayeredCards$Rules", "earlier", "I", false)
  | 6 => ("LayeredCards$Rules", "between", "I", false)
  | _ => ("LayeredCards$Rules", "times", "I", false)
def ft_R : Nat → FieldType := fun k => match k with
  | 0 => .object "LayeredCards$Cards"
  | 1 => .object "LayeredCards$Layering"
  | 2 => .object "LayeredCards$Event"
  | 3 => .object "LayeredCards$Past"
  | 4 => .int
  | 5 => .int
  | 6 => .int
  | _ => .int
def R_T : String := "LayeredCards$Tape"
def F_T : u_T := fun k => match k with
  | 0 => ("LayeredCards$Tape", "bytes", "[I", true)
  | 1 => ("LayeredCards$Tape", "length", "I", false)
  | 2 => ("LayeredCards$Tape", "cursor", "I", false)
  | 3 => ("LayeredCards$Tape", "kinds", "[I", true)
  | 4 => ("LayeredCards$Tape", "owners", "[I", true)
  | 5 => ("LayeredCards$Tape", "vws", "[I", true)
  | 6 => ("LayeredCards$Tape", "as", "[I", true)
  | _ => ("LayeredCards$Tape", "lines", "I", false)
def ft_T : Nat → FieldType := fun k => match k with
  | 0 => .array .int
  | 1 => .int
  | 2 => .int
  | 3 => .array .int
  | 4 => .array .int
  | 5 => .array .int
  | 6 => .array .int
  | _ => .int
def R_L : String := "LayeredCards"
def F_L : u_T := fun k => match k with
  | 0 => ("LayeredCards", "cards", "LLayeredCards$Cards;", true)
  | 1 => ("LayeredCards", "game", "LLayeredCards$Game;", true)
  | 2 => ("LayeredCards", "image", "LLayeredCards$Game;", true)
  | 3 => ("LayeredCards", "hasImage", "Z", false)
  | 4 => ("LayeredCards", "thought", "LLayeredCards$Game;", true)
  | 5 => ("LayeredCards", "thoughts", "[LLayeredCards$Game;", true)
  | 6 => ("LayeredCards", "rules", "LLayeredCards$Rules;", true)
  | 7 => ("LayeredCards", "layering", "LLayeredCards$Layering;", true)
  | 8 => ("LayeredCards", "event", "LLayeredCards$Event;", true)
  | 9 => ("LayeredCards", "log", "LLayeredCards$Log;", true)
  | 10 => ("LayeredCards", "unread", "LLayeredCards$Log;", true)
  | 11 => ("LayeredCards", "tape", "LLayeredCards$Tape;", true)
  | 12 => ("LayeredCards", "handles", "[I", true)
  | 13 => ("LayeredCards", "lastEnd", "I", false)
  | 14 => ("LayeredCards", "lastEarlier", "I", false)
  | _ => ("LayeredCards", "lastBetween", "I", false)
def ft_L : Nat → FieldType := fun k => match k with
  | 0 => .object "LayeredCards$Cards"
  | 1 => .object "LayeredCards$Game"
  | 2 => .object "LayeredCards$Game"
  | 3 => .boolean
  | 4 => .object "LayeredCards$Game"
  | 5 => .array (.object "LayeredCards$Game")
  | 6 => .object "LayeredCards$Rules"
  | 7 => .object "LayeredCards$Layering"
  | 8 => .object "LayeredCards$Event"
  | 9 => .object "LayeredCards$Log"
  | 10 => .object "LayeredCards$Log"
  | 11 => .object "LayeredCards$Tape"
  | 12 => .array .int
  | 13 => .int
  | 14 => .int
  | _ => .int
def R_M : String := "LayeredCardsModel"
def F_M : u_T := fun k => match k with
  | 0 => ("LayeredCardsModel", "kind", "[I", true)
  | 1 => ("LayeredCardsModel", "owner", "[I", true)
  | 2 => ("LayeredCardsModel", "first", "[I", true)
  | 3 => ("LayeredCardsModel", "second", "[I", true)
  | 4 => ("LayeredCardsModel", "by", "[I", true)
  | 5 => ("LayeredCardsModel", "cards", "I", false)
  | 6 => ("LayeredCardsModel", "g", "[I", true)
  | 7 => ("LayeredCardsModel", "levels", "[[I", true)
  | 8 => ("LayeredCardsModel", "kept", "[I", true)
  | 9 => ("LayeredCardsModel", "keptCards", "I", false)
  | 10 => ("LayeredCardsModel", "seen", "[[I", true)
  | 11 => ("LayeredCardsModel", "values", "[I", true)
  | 12 => ("LayeredCardsModel", "layers", "[I", true)
  | 13 => ("LayeredCardsModel", "layersMany", "I", false)
  | 14 => ("LayeredCardsModel", "uses", "[I", true)
  | 15 => ("LayeredCardsModel", "usesMany", "I", false)
  | 16 => ("LayeredCardsModel", "type", "I", false)
  | 17 => ("LayeredCardsModel", "player", "I", false)
  | 18 => ("LayeredCardsModel", "amount", "I", false)
  | 19 => ("LayeredCardsModel", "tape", "[I", true)
  | 20 => ("LayeredCardsModel", "tapeMany", "I", false)
  | 21 => ("LayeredCardsModel", "held", "[I", true)
  | 22 => ("LayeredCardsModel", "how", "I", false)
  | 23 => ("LayeredCardsModel", "earlier", "I", false)
  | 24 => ("LayeredCardsModel", "between", "I", false)
  | 25 => ("LayeredCardsModel", "runHow", "I", false)
  | 26 => ("LayeredCardsModel", "runEarlier", "I", false)
  | 27 => ("LayeredCardsModel", "runBetween", "I", false)
  | 28 => ("LayeredCardsModel", "traced", "[I", true)
  | 29 => ("LayeredCardsModel", "tracedMany", "I", false)
  | 30 => ("LayeredCardsModel", "happened", "[I", true)
  | 31 => ("LayeredCardsModel", "happenedMany", "I", false)
  | 32 => ("LayeredCardsModel", "isTraced", "Z", false)
  | 33 => ("LayeredCardsModel", "spot", "I", false)
  | _ => ("LayeredCardsModel", "fault", "I", false)
def ft_M : Nat → FieldType := fun k => match k with
  | 0 => .array .int
  | 1 => .array .int
  | 2 => .array .int
  | 3 => .array .int
  | 4 => .array .int
  | 5 => .int
  | 6 => .array .int
  | 7 => .array (.array .int)
  | 8 => .array .int
  | 9 => .int
  | 10 => .array (.array .int)
  | 11 => .array .int
  | 12 => .array .int
  | 13 => .int
  | 14 => .array .int
  | 15 => .int
  | 16 => .int
  | 17 => .int
  | 18 => .int
  | 19 => .array .int
  | 20 => .int
  | 21 => .array .int
  | 22 => .int
  | 23 => .int
  | 24 => .int
  | 25 => .int
  | 26 => .int
  | 27 => .int
  | 28 => .array .int
  | 29 => .int
  | 30 => .array .int
  | 31 => .int
  | 32 => .boolean
  | 33 => .int
  | _ => .int
def RW : String := "LayeredCardsLaw"
/-- the classes whose objects the worlds hold -/
def cls0 : List vw_C := [(R_K, F_K, 5), (R_E, F_E, 7), (R_G, F_G, 15), (R_Y, F_Y, 7), (R_O, F_O, 4), (R_P, F_P, 5), (R_R, F_R, 8), (R_T, F_T, 8), (R_L, F_L, 16), (R_M, F_M, 35)]
def nfl : List Nat := [5, 7, 15, 7, 4, 5, 8, 8, 16, 35]
def nf (ci : Nat) : Nat := nfl.getD ci 0
/-- what a field holds: 0 an int, 1 a reference, 2 a boolean -/
def fkl : List (List Nat) := [[1, 1, 1, 1, 1], [1, 0, 0, 0, 1, 0, 0], [1, 1, 1, 1, 1, 1, 1, 0, 0, 0, 0, 0, 0, 0, 0], [1, 1, 1, 0, 1, 1, 0], [1, 1, 0, 0], [1, 1, 1, 1, 1], [1, 1, 1, 1, 0, 0, 0, 0], [1, 0, 0, 1, 1, 1, 1, 0], [1, 1, 1, 2, 1, 1, 1, 1, 1, 1, 1, 1, 1, 0, 0, 0], [1, 1, 1, 1, 1, 0, 1, 1, 1, 0, 1, 1, 1, 0, 1, 0, 0, 0, 0, 1, 0, 1, 0, 0, 0, 0, 0, 0, 1, 0, 1, 0, 2, 0, 0]]
def fk (ci j : Nat) : Nat := (fkl.getD ci []).getD j 9
abbrev b_K_init : ByteArray := prog_2_method_1_code
def y_K_init : MethodName := ⟨R_K, "<init>", "()V"⟩
abbrev b_K_write : ByteArray := prog_2_method_2_code
def y_K_write : MethodName := ⟨R_K, "write", "(IIIII)V"⟩
abbrev b_E_init : ByteArray := prog_3_method_1_code
def y_E_init : MethodName := ⟨R_E, "<init>", "(LLayeredCards$Cards;)V"⟩
abbrev b_E_become : ByteArray := prog_3_method_2_code
def y_E_become : MethodName := ⟨R_E, "become", "(III)V"⟩
abbrev b_E_becomeTold : ByteArray := prog_3_method_3_code
def y_E_becomeTold : MethodName := ⟨R_E, "becomeTold", "(I)V"⟩
abbrev b_E_told : ByteArray := prog_3_method_4_code
def y_E_told : MethodName := ⟨R_E, "told", "()I"⟩
abbrev b_E_replaceBy : ByteArray := prog_3_method_5_code
def y_E_replaceBy : MethodName := ⟨R_E, "replaceBy", "(LLayeredCards$Game;)V"⟩
abbrev b_E_fits : ByteArray := prog_3_method_6_code
def y_E_fits : MethodName := ⟨R_E, "fits", "(I)Z"⟩
abbrev b_E_use : ByteArray := prog_3_method_7_code
def y_E_use : MethodName := ⟨R_E, "use", "(I)V"⟩
abbrev b_G_init : ByteArray := prog_4_method_1_code
def y_G_init : MethodName := ⟨R_G, "<init>", "(LLayeredCards$Cards;)V"⟩
abbrev b_G_copyFrom : ByteArray := prog_4_method_2_code
def y_G_copyFrom : MethodName := ⟨R_G, "copyFrom", "(LLayeredCards$Game;)V"⟩
abbrev b_G_has : ByteArray := prog_4_method_3_code
def y_G_has : MethodName := ⟨R_G, "has", "(I)Z"⟩
abbrev b_G_addCard : ByteArray := prog_4_method_4_code
def y_G_addCard : MethodName := ⟨R_G, "addCard", "(IIII)I"⟩
abbrev b_G_moveTo : ByteArray := prog_4_method_5_code
def y_G_moveTo : MethodName := ⟨R_G, "moveTo", "(II)V"⟩
abbrev b_G_playCard : ByteArray := prog_4_method_6_code
def y_G_playCard : MethodName := ⟨R_G, "playCard", "(I)V"⟩
abbrev b_G_layDown : ByteArray := prog_4_method_7_code
def y_G_layDown : MethodName := ⟨R_G, "layDown", "(I)V"⟩
abbrev b_G_takeOff : ByteArray := prog_4_method_8_code
def y_G_takeOff : MethodName := ⟨R_G, "takeOff", "(I)V"⟩
abbrev b_G_push : ByteArray := prog_4_method_9_code
def y_G_push : MethodName := ⟨R_G, "push", "(I)Z"⟩
abbrev b_G_pop : ByteArray := prog_4_method_10_code
def y_G_pop : MethodName := ⟨R_G, "pop", "()I"⟩
abbrev b_G_countIn : ByteArray := prog_4_method_11_code
def y_G_countIn : MethodName := ⟨R_G, "countIn", "(II)I"⟩
abbrev b_G_nthIn : ByteArray := prog_4_method_12_code
def y_G_nthIn : MethodName := ⟨R_G, "nthIn", "(III)I"⟩
abbrev b_G_drawOne : ByteArray := prog_4_method_13_code
def y_G_drawOne : MethodName := ⟨R_G, "drawOne", "(I)V"⟩
abbrev b_G_changeLife : ByteArray := prog_4_method_14_code
def y_G_changeLife : MethodName := ⟨R_G, "changeLife", "(II)V"⟩
abbrev b_G_worthTo : ByteArray := prog_4_method_15_code
def y_G_worthTo : MethodName := ⟨R_G, "worthTo", "(I)I"⟩
abbrev b_G_lostBits : ByteArray := prog_4_method_16_code
def y_G_lostBits : MethodName := ⟨R_G, "lostBits", "()I"⟩
abbrev b_G_isQuiet : ByteArray := prog_4_method_17_code
def y_G_isQuiet : MethodName := ⟨R_G, "isQuiet", "()Z"⟩
abbrev b_Y_init : ByteArray := prog_5_method_1_code
def y_Y_init : MethodName := ⟨R_Y, "<init>", "(LLayeredCards$Cards;)V"⟩
abbrev b_Y_workOut : ByteArray := prog_5_method_2_code
def y_Y_workOut : MethodName := ⟨R_Y, "workOut", "(LLayeredCards$Game;)V"⟩
abbrev b_Y_gather : ByteArray := prog_5_method_3_code
def y_Y_gather : MethodName := ⟨R_Y, "gather", "(LLayeredCards$Game;)V"⟩
abbrev b_Y_countOn : ByteArray := prog_5_method_4_code
def y_Y_countOn : MethodName := ⟨R_Y, "countOn", "(II)V"⟩
abbrev b_Y_takeNext : ByteArray := prog_5_method_5_code
def y_Y_takeNext : MethodName := ⟨R_Y, "takeNext", "()I"⟩
abbrev b_Y_waits : ByteArray := prog_5_method_6_code
def y_Y_waits : MethodName := ⟨R_Y, "waits", "(I)Z"⟩
abbrev b_Y_use : ByteArray := prog_5_method_7_code
def y_Y_use : MethodName := ⟨R_Y, "use", "(I)V"⟩
abbrev b_O_init : ByteArray := prog_6_method_1_code
def y_O_init : MethodName := ⟨R_O, "<init>", "()V"⟩
abbrev b_O_empty : ByteArray := prog_6_method_2_code
def y_O_empty : MethodName := ⟨R_O, "empty", "()V"⟩
abbrev b_O_addThing : ByteArray := prog_6_method_3_code
def y_O_addThing : MethodName := ⟨R_O, "addThing", "(I)V"⟩
abbrev b_O_addEvent : ByteArray := prog_6_method_4_code
def y_O_addEvent : MethodName := ⟨R_O, "addEvent", "(I)V"⟩
abbrev b_P_init : ByteArray := prog_7_method_1_code
def y_P_init : MethodName := ⟨R_P, "<init>", "()V"⟩
abbrev b_P_keep : ByteArray := prog_7_method_2_code
def y_P_keep : MethodName := ⟨R_P, "keep", "(ILLayeredCards$Game;)V"⟩
abbrev b_P_sameAs : ByteArray := prog_7_method_3_code
def y_P_sameAs : MethodName := ⟨R_P, "sameAs", "(I)I"⟩
abbrev b_P_samePiles : ByteArray := prog_7_method_4_code
def y_P_samePiles : MethodName := ⟨R_P, "samePiles", "(II)Z"⟩
abbrev b_R_init : ByteArray := prog_8_method_1_code
def y_R_init : MethodName := ⟨R_R, "<init>", "(LLayeredCards$Cards;)V"⟩
abbrev b_R_runPile : ByteArray := prog_8_method_2_code
def y_R_runPile : MethodName := ⟨R_R, "runPile", "(LLayeredCards$Game;LLayeredCards$Log;)V"⟩
abbrev b_R_hasEnded : ByteArray := prog_8_method_3_code
def y_R_hasEnded : MethodName := ⟨R_R, "hasEnded", "(LLayeredCards$Game;)Z"⟩
abbrev b_R_resolveTop : ByteArray := prog_8_method_4_code
def y_R_resolveTop : MethodName := ⟨R_R, "resolveTop", "(LLayeredCards$Game;LLayeredCards$Log;)V"⟩
abbrev b_R_stopTop : ByteArray := prog_8_method_5_code
def y_R_stopTop : MethodName := ⟨R_R, "stopTop", "(LLayeredCards$Game;)V"⟩
abbrev b_R_clearYoungest : ByteArray := prog_8_method_6_code
def y_R_clearYoungest : MethodName := ⟨R_R, "clearYoungest", "(LLayeredCards$Game;I)V"⟩
abbrev b_R_begin : ByteArray := prog_8_method_7_code
def y_R_begin : MethodName := ⟨R_R, "begin", "(III)V"⟩
abbrev b_R_happen : ByteArray := prog_8_method_8_code
def y_R_happen : MethodName := ⟨R_R, "happen", "(LLayeredCards$Game;LLayeredCards$Log;)V"⟩
abbrev b_R_castShadows : ByteArray := prog_8_method_9_code
def y_R_castShadows : MethodName := ⟨R_R, "castShadows", "(LLayeredCards$Game;)V"⟩
abbrev b_R_takeTurn : ByteArray := prog_8_method_10_code
def y_R_takeTurn : MethodName := ⟨R_R, "takeTurn", "(LLayeredCards$Game;LLayeredCards$Log;)V"⟩
abbrev b_T_init : ByteArray := prog_9_method_1_code
def y_T_init : MethodName := ⟨R_T, "<init>", "()V"⟩
abbrev b_T_append : ByteArray := prog_9_method_2_code
def y_T_append : MethodName := ⟨R_T, "append", "(I)Z"⟩
abbrev b_T_readText : ByteArray := prog_9_method_3_code
def y_T_readText : MethodName := ⟨R_T, "readText", "()I"⟩
abbrev b_T_readLine : ByteArray := prog_9_method_4_code
def y_T_readLine : MethodName := ⟨R_T, "readLine", "()Z"⟩
abbrev b_T_readWord : ByteArray := prog_9_method_5_code
def y_T_readWord : MethodName := ⟨R_T, "readWord", "()I"⟩
abbrev b_T_lettersAlike : ByteArray := prog_9_method_6_code
def y_T_lettersAlike : MethodName := ⟨R_T, "lettersAlike", "(I)I"⟩
abbrev b_T_readDigit : ByteArray := prog_9_method_7_code
def y_T_readDigit : MethodName := ⟨R_T, "readDigit", "(I)I"⟩
abbrev b_T_skip : ByteArray := prog_9_method_8_code
def y_T_skip : MethodName := ⟨R_T, "skip", "(I)Z"⟩
abbrev b_L_init : ByteArray := prog_1_method_1_code
def y_L_init : MethodName := ⟨R_L, "<init>", "()V"⟩
abbrev b_L_card : ByteArray := prog_1_method_2_code
def y_L_card : MethodName := ⟨R_L, "card", "(IIII)I"⟩
abbrev b_L_feed : ByteArray := prog_1_method_3_code
def y_L_feed : MethodName := ⟨R_L, "feed", "(I)I"⟩
abbrev b_L_deck : ByteArray := prog_1_method_4_code
def y_L_deck : MethodName := ⟨R_L, "deck", "()I"⟩
abbrev b_L_deckOnTape : ByteArray := prog_1_method_5_code
def y_L_deckOnTape : MethodName := ⟨R_L, "deckOnTape", "()I"⟩
abbrev b_L_of : ByteArray := prog_1_method_6_code
def y_L_of : MethodName := ⟨R_L, "of", "(II)I"⟩
abbrev b_L_deal : ByteArray := prog_1_method_7_code
def y_L_deal : MethodName := ⟨R_L, "deal", "(I)I"⟩
abbrev b_L_base : ByteArray := prog_1_method_8_code
def y_L_base : MethodName := ⟨R_L, "base", "(II)I"⟩
abbrev b_L_mend : ByteArray := prog_1_method_9_code
def y_L_mend : MethodName := ⟨R_L, "mend", "(II)I"⟩
abbrev b_L_player : ByteArray := prog_1_method_10_code
def y_L_player : MethodName := ⟨R_L, "player", "(II)I"⟩
abbrev b_L_value : ByteArray := prog_1_method_11_code
def y_L_value : MethodName := ⟨R_L, "value", "(I)I"⟩
abbrev b_L_layer : ByteArray := prog_1_method_12_code
def y_L_layer : MethodName := ⟨R_L, "layer", "(I)I"⟩
abbrev b_L_depends : ByteArray := prog_1_method_13_code
def y_L_depends : MethodName := ⟨R_L, "depends", "(II)I"⟩
abbrev b_L_isLayerOnTable : ByteArray := prog_1_method_14_code
def y_L_isLayerOnTable : MethodName := ⟨R_L, "isLayerOnTable", "(I)Z"⟩
abbrev b_L_used : ByteArray := prog_1_method_15_code
def y_L_used : MethodName := ⟨R_L, "used", "(II)I"⟩
abbrev b_L_play : ByteArray := prog_1_method_16_code
def y_L_play : MethodName := ⟨R_L, "play", "(I)I"⟩
abbrev b_L_pile : ByteArray := prog_1_method_17_code
def y_L_pile : MethodName := ⟨R_L, "pile", "(I)I"⟩
abbrev b_L_resolve : ByteArray := prog_1_method_18_code
def y_L_resolve : MethodName := ⟨R_L, "resolve", "()I"⟩
abbrev b_L_run : ByteArray := prog_1_method_19_code
def y_L_run : MethodName := ⟨R_L, "run", "()I"⟩
abbrev b_L_ended : ByteArray := prog_1_method_20_code
def y_L_ended : MethodName := ⟨R_L, "ended", "(I)I"⟩
abbrev b_L_turn : ByteArray := prog_1_method_21_code
def y_L_turn : MethodName := ⟨R_L, "turn", "()I"⟩
abbrev b_L_dry : ByteArray := prog_1_method_22_code
def y_L_dry : MethodName := ⟨R_L, "dry", "(I)I"⟩
abbrev b_L_worth : ByteArray := prog_1_method_23_code
def y_L_worth : MethodName := ⟨R_L, "worth", "(I)I"⟩
abbrev b_L_worthPlayed : ByteArray := prog_1_method_24_code
def y_L_worthPlayed : MethodName := ⟨R_L, "worthPlayed", "(I)I"⟩
abbrev b_L_best : ByteArray := prog_1_method_25_code
def y_L_best : MethodName := ⟨R_L, "best", "(II)I"⟩
abbrev b_L_byTurns : ByteArray := prog_1_method_26_code
def y_L_byTurns : MethodName := ⟨R_L, "byTurns", "(I)I"⟩
abbrev b_L_outcome : ByteArray := prog_1_method_27_code
def y_L_outcome : MethodName := ⟨R_L, "outcome", "([LLayeredCards$Game;LLayeredCards$Rules;LLayeredCards$Log;II)I"⟩
abbrev b_L_matter : ByteArray := prog_1_method_28_code
def y_L_matter : MethodName := ⟨R_L, "matter", "()I"⟩
abbrev b_L_runWithout : ByteArray := prog_1_method_29_code
def y_L_runWithout : MethodName := ⟨R_L, "runWithout", "(I)V"⟩
abbrev b_L_swing : ByteArray := prog_1_method_30_code
def y_L_swing : MethodName := ⟨R_L, "swing", "(I)I"⟩
abbrev b_L_next : ByteArray := prog_1_method_31_code
def y_L_next : MethodName := ⟨R_L, "next", "(I)I"⟩
abbrev b_L_ahead : ByteArray := prog_1_method_32_code
def y_L_ahead : MethodName := ⟨R_L, "ahead", "(II)I"⟩
abbrev b_L_trace : ByteArray := prog_1_method_33_code
def y_L_trace : MethodName := ⟨R_L, "trace", "(II)I"⟩
abbrev b_L_seed : ByteArray := prog_1_method_34_code
def y_L_seed : MethodName := ⟨R_L, "seed", "(I)I"⟩
abbrev b_L_image : ByteArray := prog_1_method_35_code
def y_L_image : MethodName := ⟨R_L, "image", "()I"⟩
abbrev b_L_back : ByteArray := prog_1_method_36_code
def y_L_back : MethodName := ⟨R_L, "back", "()I"⟩
abbrev b_L_hold : ByteArray := prog_1_method_37_code
def y_L_hold : MethodName := ⟨R_L, "hold", "(II)I"⟩
abbrev b_L_tells : ByteArray := prog_1_method_38_code
def y_L_tells : MethodName := ⟨R_L, "tells", "(II)I"⟩
abbrev b_L_count : ByteArray := prog_1_method_39_code
def y_L_count : MethodName := ⟨R_L, "count", "(I)I"⟩
abbrev b_L_at : ByteArray := prog_1_method_40_code
def y_L_at : MethodName := ⟨R_L, "at", "([II)I"⟩
abbrev b_L_put : ByteArray := prog_1_method_41_code
def y_L_put : MethodName := ⟨R_L, "put", "([III)V"⟩
abbrev b_L_copyRow : ByteArray := prog_1_method_42_code
def y_L_copyRow : MethodName := ⟨R_L, "copyRow", "([I[I)V"⟩
abbrev b_L_within : ByteArray := prog_1_method_43_code
def y_L_within : MethodName := ⟨R_L, "within", "(III)I"⟩
abbrev b_L_isPlayer : ByteArray := prog_1_method_44_code
def y_L_isPlayer : MethodName := ⟨R_L, "isPlayer", "(I)Z"⟩
abbrev b_L_isPair : ByteArray := prog_1_method_45_code
def y_L_isPair : MethodName := ⟨R_L, "isPair", "(I)Z"⟩
abbrev b_L_familyOf : ByteArray := prog_1_method_46_code
def y_L_familyOf : MethodName := ⟨R_L, "familyOf", "(I)I"⟩
abbrev b_L_looksAtOther : ByteArray := prog_1_method_47_code
def y_L_looksAtOther : MethodName := ⟨R_L, "looksAtOther", "(I)Z"⟩
abbrev b_L_layered : ByteArray := prog_1_method_48_code
def y_L_layered : MethodName := ⟨R_L, "layered", "(IIII)I"⟩
abbrev b_L_replacedAmount : ByteArray := prog_1_method_49_code
def y_L_replacedAmount : MethodName := ⟨R_L, "replacedAmount", "(III)I"⟩
abbrev b_L_codeOf : ByteArray := prog_1_method_50_code
def y_L_codeOf : MethodName := ⟨R_L, "codeOf", "(III)I"⟩
abbrev b_L_seedAfter : ByteArray := prog_1_method_51_code
def y_L_seedAfter : MethodName := ⟨R_L, "seedAfter", "(I)I"⟩
abbrev b_L_drawnBelow : ByteArray := prog_1_method_52_code
def y_L_drawnBelow : MethodName := ⟨R_L, "drawnBelow", "(II)I"⟩
abbrev b_M_init : ByteArray := prog_11_method_1_code
def y_M_init : MethodName := ⟨R_M, "<init>", "()V"⟩
abbrev b_M_in : ByteArray := prog_11_method_2_code
def y_M_in : MethodName := ⟨R_M, "in", "(III)Z"⟩
abbrev b_M_held : ByteArray := prog_11_method_3_code
def y_M_held : MethodName := ⟨R_M, "held", "(III)I"⟩
abbrev b_M_isCard : ByteArray := prog_11_method_4_code
def y_M_isCard : MethodName := ⟨R_M, "isCard", "(I)Z"⟩
abbrev b_M_isAt : ByteArray := prog_11_method_5_code
def y_M_isAt : MethodName := ⟨R_M, "isAt", "(II)Z"⟩
abbrev b_M_copy : ByteArray := prog_11_method_6_code
def y_M_copy : MethodName := ⟨R_M, "copy", "([I[I)V"⟩
abbrev b_M_add : ByteArray := prog_11_method_7_code
def y_M_add : MethodName := ⟨R_M, "add", "(IIIII)I"⟩
abbrev b_M_card : ByteArray := prog_11_method_8_code
def y_M_card : MethodName := ⟨R_M, "card", "(IIII)I"⟩
abbrev b_M_feed : ByteArray := prog_11_method_9_code
def y_M_feed : MethodName := ⟨R_M, "feed", "(I)I"⟩
abbrev b_M_wordOf : ByteArray := prog_11_method_10_code
def y_M_wordOf : MethodName := ⟨R_M, "wordOf", "(I)Ljava/lang/String;"⟩
abbrev b_M_sees : ByteArray := prog_11_method_11_code
def y_M_sees : MethodName := ⟨R_M, "sees", "(II)Z"⟩
abbrev b_M_must : ByteArray := prog_11_method_12_code
def y_M_must : MethodName := ⟨R_M, "must", "(II)I"⟩
abbrev b_M_goes : ByteArray := prog_11_method_13_code
def y_M_goes : MethodName := ⟨R_M, "goes", "(Ljava/lang/String;)I"⟩
abbrev b_M_wordHere : ByteArray := prog_11_method_14_code
def y_M_wordHere : MethodName := ⟨R_M, "wordHere", "()I"⟩
abbrev b_M_digit : ByteArray := prog_11_method_15_code
def y_M_digit : MethodName := ⟨R_M, "digit", "(I)I"⟩
abbrev b_M_line : ByteArray := prog_11_method_16_code
def y_M_line : MethodName := ⟨R_M, "line", "(Z)V"⟩
abbrev b_M_lines : ByteArray := prog_11_method_17_code
def y_M_lines : MethodName := ⟨R_M, "lines", "(Z)I"⟩
abbrev b_M_deck : ByteArray := prog_11_method_18_code
def y_M_deck : MethodName := ⟨R_M, "deck", "()I"⟩
abbrev b_M_of : ByteArray := prog_11_method_19_code
def y_M_of : MethodName := ⟨R_M, "of", "(II)I"⟩
abbrev b_M_deal : ByteArray := prog_11_method_20_code
def y_M_deal : MethodName := ⟨R_M, "deal", "(I)I"⟩
abbrev b_M_base : ByteArray := prog_11_method_21_code
def y_M_base : MethodName := ⟨R_M, "base", "(II)I"⟩
abbrev b_M_mend : ByteArray := prog_11_method_22_code
def y_M_mend : MethodName := ⟨R_M, "mend", "(II)I"⟩
abbrev b_M_manyAt : ByteArray := prog_11_method_23_code
def y_M_manyAt : MethodName := ⟨R_M, "manyAt", "(II)I"⟩
abbrev b_M_player : ByteArray := prog_11_method_24_code
def y_M_player : MethodName := ⟨R_M, "player", "(II)I"⟩
abbrev b_M_isLayer : ByteArray := prog_11_method_25_code
def y_M_isLayer : MethodName := ⟨R_M, "isLayer", "(I)Z"⟩
abbrev b_M_hangs : ByteArray := prog_11_method_26_code
def y_M_hangs : MethodName := ⟨R_M, "hangs", "(II)Z"⟩
abbrev b_M_isUsed : ByteArray := prog_11_method_27_code
def y_M_isUsed : MethodName := ⟨R_M, "isUsed", "(I)Z"⟩
abbrev b_M_isFree : ByteArray := prog_11_method_28_code
def y_M_isFree : MethodName := ⟨R_M, "isFree", "(I)Z"⟩
abbrev b_M_nextLayer : ByteArray := prog_11_method_29_code
def y_M_nextLayer : MethodName := ⟨R_M, "nextLayer", "(Z)I"⟩
abbrev b_M_use : ByteArray := prog_11_method_30_code
def y_M_use : MethodName := ⟨R_M, "use", "(I)V"⟩
abbrev b_M_layered : ByteArray := prog_11_method_31_code
def y_M_layered : MethodName := ⟨R_M, "layered", "()V"⟩
abbrev b_M_valueNow : ByteArray := prog_11_method_32_code
def y_M_valueNow : MethodName := ⟨R_M, "valueNow", "(I)I"⟩
abbrev b_M_value : ByteArray := prog_11_method_33_code
def y_M_value : MethodName := ⟨R_M, "value", "(I)I"⟩
abbrev b_M_layer : ByteArray := prog_11_method_34_code
def y_M_layer : MethodName := ⟨R_M, "layer", "(I)I"⟩
abbrev b_M_depends : ByteArray := prog_11_method_35_code
def y_M_depends : MethodName := ⟨R_M, "depends", "(II)I"⟩
abbrev b_M_fits : ByteArray := prog_11_method_36_code
def y_M_fits : MethodName := ⟨R_M, "fits", "(I)Z"⟩
abbrev b_M_wasUsed : ByteArray := prog_11_method_37_code
def y_M_wasUsed : MethodName := ⟨R_M, "wasUsed", "(I)Z"⟩
abbrev b_M_nextReplacer : ByteArray := prog_11_method_38_code
def y_M_nextReplacer : MethodName := ⟨R_M, "nextReplacer", "()I"⟩
abbrev b_M_replaced : ByteArray := prog_11_method_39_code
def y_M_replaced : MethodName := ⟨R_M, "replaced", "(III)V"⟩
abbrev b_M_draw : ByteArray := prog_11_method_40_code
def y_M_draw : MethodName := ⟨R_M, "draw", "(I)I"⟩
abbrev b_M_drawOne : ByteArray := prog_11_method_41_code
def y_M_drawOne : MethodName := ⟨R_M, "drawOne", "()V"⟩
abbrev b_M_push : ByteArray := prog_11_method_42_code
def y_M_push : MethodName := ⟨R_M, "push", "(I)V"⟩
abbrev b_M_echoes : ByteArray := prog_11_method_43_code
def y_M_echoes : MethodName := ⟨R_M, "echoes", "()V"⟩
abbrev b_M_event : ByteArray := prog_11_method_44_code
def y_M_event : MethodName := ⟨R_M, "event", "(III)V"⟩
abbrev b_M_used : ByteArray := prog_11_method_45_code
def y_M_used : MethodName := ⟨R_M, "used", "(II)I"⟩
abbrev b_M_play : ByteArray := prog_11_method_46_code
def y_M_play : MethodName := ⟨R_M, "play", "(I)I"⟩
abbrev b_M_playIt : ByteArray := prog_11_method_47_code
def y_M_playIt : MethodName := ⟨R_M, "playIt", "(I)V"⟩
abbrev b_M_pile : ByteArray := prog_11_method_48_code
def y_M_pile : MethodName := ⟨R_M, "pile", "(I)I"⟩
abbrev b_M_stop : ByteArray := prog_11_method_49_code
def y_M_stop : MethodName := ⟨R_M, "stop", "()V"⟩
abbrev b_M_clear : ByteArray := prog_11_method_50_code
def y_M_clear : MethodName := ⟨R_M, "clear", "(I)V"⟩
abbrev b_M_answer : ByteArray := prog_11_method_51_code
def y_M_answer : MethodName := ⟨R_M, "answer", "(I)V"⟩
abbrev b_M_resolveTop : ByteArray := prog_11_method_52_code
def y_M_resolveTop : MethodName := ⟨R_M, "resolveTop", "()V"⟩
abbrev b_M_traces : ByteArray := prog_11_method_53_code
def y_M_traces : MethodName := ⟨R_M, "traces", "()V"⟩
abbrev b_M_resolve : ByteArray := prog_11_method_54_code
def y_M_resolve : MethodName := ⟨R_M, "resolve", "()I"⟩
abbrev b_M_isLost : ByteArray := prog_11_method_55_code
def y_M_isLost : MethodName := ⟨R_M, "isLost", "()Z"⟩
abbrev b_M_see : ByteArray := prog_11_method_56_code
def y_M_see : MethodName := ⟨R_M, "see", "(I)V"⟩
abbrev b_M_sameAs : ByteArray := prog_11_method_57_code
def y_M_sameAs : MethodName := ⟨R_M, "sameAs", "(I)I"⟩
abbrev b_M_runIt : ByteArray := prog_11_method_58_code
def y_M_runIt : MethodName := ⟨R_M, "runIt", "()I"⟩
abbrev b_M_run : ByteArray := prog_11_method_59_code
def y_M_run : MethodName := ⟨R_M, "run", "()I"⟩
abbrev b_M_ended : ByteArray := prog_11_method_60_code
def y_M_ended : MethodName := ⟨R_M, "ended", "(I)I"⟩
abbrev b_M_greatestIn : ByteArray := prog_11_method_61_code
def y_M_greatestIn : MethodName := ⟨R_M, "greatestIn", "(I)I"⟩
abbrev b_M_turn : ByteArray := prog_11_method_62_code
def y_M_turn : MethodName := ⟨R_M, "turn", "()I"⟩
abbrev b_M_turnIt : ByteArray := prog_11_method_63_code
def y_M_turnIt : MethodName := ⟨R_M, "turnIt", "()V"⟩
abbrev b_M_dry : ByteArray := prog_11_method_64_code
def y_M_dry : MethodName := ⟨R_M, "dry", "(I)I"⟩
abbrev b_M_worthOf : ByteArray := prog_11_method_65_code
def y_M_worthOf : MethodName := ⟨R_M, "worthOf", "(I)I"⟩
abbrev b_M_worthIf : ByteArray := prog_11_method_66_code
def y_M_worthIf : MethodName := ⟨R_M, "worthIf", "(II)I"⟩
abbrev b_M_worth : ByteArray := prog_11_method_67_code
def y_M_worth : MethodName := ⟨R_M, "worth", "(I)I"⟩
abbrev b_M_best : ByteArray := prog_11_method_68_code
def y_M_best : MethodName := ⟨R_M, "best", "(II)I"⟩
abbrev b_M_reach : ByteArray := prog_11_method_69_code
def y_M_reach : MethodName := ⟨R_M, "reach", "(IIII)I"⟩
abbrev b_M_matter : ByteArray := prog_11_method_70_code
def y_M_matter : MethodName := ⟨R_M, "matter", "()I"⟩
abbrev b_M_swing : ByteArray := prog_11_method_71_code
def y_M_swing : MethodName := ⟨R_M, "swing", "(I)I"⟩
abbrev b_M_next : ByteArray := prog_11_method_72_code
def y_M_next : MethodName := ⟨R_M, "next", "(I)I"⟩
abbrev b_M_ahead : ByteArray := prog_11_method_73_code
def y_M_ahead : MethodName := ⟨R_M, "ahead", "(II)I"⟩
abbrev b_M_trace : ByteArray := prog_11_method_74_code
def y_M_trace : MethodName := ⟨R_M, "trace", "(II)I"⟩
abbrev b_M_byTurns : ByteArray := prog_11_method_75_code
def y_M_byTurns : MethodName := ⟨R_M, "byTurns", "(I)I"⟩
abbrev b_M_seed : ByteArray := prog_11_method_76_code
def y_M_seed : MethodName := ⟨R_M, "seed", "(I)I"⟩
abbrev b_M_image : ByteArray := prog_11_method_77_code
def y_M_image : MethodName := ⟨R_M, "image", "()I"⟩
abbrev b_M_back : ByteArray := prog_11_method_78_code
def y_M_back : MethodName := ⟨R_M, "back", "()I"⟩
abbrev b_M_hold : ByteArray := prog_11_method_79_code
def y_M_hold : MethodName := ⟨R_M, "hold", "(II)I"⟩
abbrev b_M_familyOf : ByteArray := prog_11_method_80_code
def y_M_familyOf : MethodName := ⟨R_M, "familyOf", "(I)I"⟩
abbrev b_M_toldBy : ByteArray := prog_11_method_81_code
def y_M_toldBy : MethodName := ⟨R_M, "toldBy", "(I)I"⟩
abbrev b_M_tells : ByteArray := prog_11_method_82_code
def y_M_tells : MethodName := ⟨R_M, "tells", "(II)I"⟩
abbrev b_M_count : ByteArray := prog_11_method_83_code
def y_M_count : MethodName := ⟨R_M, "count", "(I)I"⟩
/-- the words that every method of ours has -/
def tbl : List Cond := lw_tbl.filter goodWord
theorem tbl_in {w : Cond} (h : w ∈ lw_tbl) (hg : goodWord w = true) : w ∈ tbl := List.mem_filter.mpr ⟨h, hg⟩
def isNest : Cond → Bool
  | .fieldLinkNest .. => true
  | .methodLinkNest .. => true
  | _ => false
def nst : List Cond := lw_tbl.filter isNest
theorem nst_in {w : Cond} (h : w ∈ lw_tbl) (hg : isNest w = true) : w ∈ nst := List.mem_filter.mpr ⟨h, hg⟩
/-- the word of a field's entry in a pool -/
def FW (own : String) (idx ci j : Nat) : Prop := ∃ q, cls0[ci]? = some q ∧ (Cond.fieldLink own idx q.1 (q.2.1 j).2.1 (q.2.1 j).2.2.1 ∈ tbl ∨ ∃ host, Cond.fieldLinkNest own idx q.1 (q.2.1 j).2.1 (q.2.1 j).2.2.1 host ∈ nst)
/-- the words of a method that is called: n parameters, static or not -/
def MX (y : MethodName) (cc : ByteArray) (nL : Nat) (ret : Option FieldType) (n : Nat) (stat : Bool) : Prop :=
  Cond.code y cc nL ret ∈ tbl ∧ Cond.initialized y.cls ∈ tbl ∧ plainName y.cls = true ∧ (y.cls ≠ "java/lang/invoke/MethodHandle" ∧ y.cls ≠ "java/lang/invoke/VarHandle" ∧ (parseMethodDescriptor y.desc).map (fun d => d.parameters.length) = some n) ∧ (if stat = true then Cond.static y ∈ tbl else Cond.instanceMethod y ∈ tbl ∧ Cond.selects y.cls y y ∈ tbl)
def MW (own : String) (idx : Nat) (y : MethodName) : Prop := Cond.methodLink own idx y ∈ tbl ∨ ∃ host, Cond.methodLinkNest own idx y host ∈ nst
