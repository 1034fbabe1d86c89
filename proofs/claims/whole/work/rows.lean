section
-- ===== PART A: goes FIRST, ahead of the names: the tables' words, and 'selects' of the private methods out of them =====
/-- a private method of a class that the tables say can be made, by its rows of tables_1 -/
def lw_okq (q : MethodName × Nat) : Prop := (q.1.cls ≠ "java/lang/invoke/MethodHandle" ∧ q.1.cls ≠ "java/lang/invoke/VarHandle") ∧ Cond.instantiable q.1.cls q.2 ∈ tables_1 ∧ Cond.privateMethod q.1 ∈ tables_1 ∧ Cond.instanceMethod q.1 ∈ tables_1
theorem lw_p0 : lw_okq (⟨"LayeredCards$Game", "addCard", "(IIII)I"⟩, 15) := ⟨⟨by decide +kernel, by decide +kernel⟩, List.mem_of_getElem? (i := 69) (by decide +kernel), List.mem_of_getElem? (i := 394) (by decide +kernel), List.mem_of_getElem? (i := 395) (by decide +kernel)⟩
theorem lw_p1 : lw_okq (⟨"LayeredCards$Cards", "write", "(IIIII)V"⟩, 5) := ⟨⟨by decide +kernel, by decide +kernel⟩, List.mem_of_getElem? (i := 26) (by decide +kernel), List.mem_of_getElem? (i := 398) (by decide +kernel), List.mem_of_getElem? (i := 399) (by decide +kernel)⟩
theorem lw_p2 : lw_okq (⟨"LayeredCards$Tape", "append", "(I)Z"⟩, 8) := ⟨⟨by decide +kernel, by decide +kernel⟩, List.mem_of_getElem? (i := 298) (by decide +kernel), List.mem_of_getElem? (i := 410) (by decide +kernel), List.mem_of_getElem? (i := 411) (by decide +kernel)⟩
theorem lw_p3 : lw_okq (⟨"LayeredCards", "deckOnTape", "()I"⟩, 16) := ⟨⟨by decide +kernel, by decide +kernel⟩, List.mem_of_getElem? (i := 18) (by decide +kernel), List.mem_of_getElem? (i := 419) (by decide +kernel), List.mem_of_getElem? (i := 420) (by decide +kernel)⟩
theorem lw_p4 : lw_okq (⟨"LayeredCards$Tape", "readText", "()I"⟩, 8) := ⟨⟨by decide +kernel, by decide +kernel⟩, List.mem_of_getElem? (i := 298) (by decide +kernel), List.mem_of_getElem? (i := 423) (by decide +kernel), List.mem_of_getElem? (i := 424) (by decide +kernel)⟩
theorem lw_p5 : lw_okq (⟨"LayeredCards$Tape", "readLine", "()Z"⟩, 8) := ⟨⟨by decide +kernel, by decide +kernel⟩, List.mem_of_getElem? (i := 298) (by decide +kernel), List.mem_of_getElem? (i := 427) (by decide +kernel), List.mem_of_getElem? (i := 428) (by decide +kernel)⟩
theorem lw_p6 : lw_okq (⟨"LayeredCards$Tape", "readWord", "()I"⟩, 8) := ⟨⟨by decide +kernel, by decide +kernel⟩, List.mem_of_getElem? (i := 298) (by decide +kernel), List.mem_of_getElem? (i := 431) (by decide +kernel), List.mem_of_getElem? (i := 432) (by decide +kernel)⟩
theorem lw_p7 : lw_okq (⟨"LayeredCards$Tape", "lettersAlike", "(I)I"⟩, 8) := ⟨⟨by decide +kernel, by decide +kernel⟩, List.mem_of_getElem? (i := 298) (by decide +kernel), List.mem_of_getElem? (i := 435) (by decide +kernel), List.mem_of_getElem? (i := 436) (by decide +kernel)⟩
theorem lw_p8 : lw_okq (⟨"LayeredCards$Tape", "readDigit", "(I)I"⟩, 8) := ⟨⟨by decide +kernel, by decide +kernel⟩, List.mem_of_getElem? (i := 298) (by decide +kernel), List.mem_of_getElem? (i := 494) (by decide +kernel), List.mem_of_getElem? (i := 495) (by decide +kernel)⟩
theorem lw_p9 : lw_okq (⟨"LayeredCards$Tape", "skip", "(I)Z"⟩, 8) := ⟨⟨by decide +kernel, by decide +kernel⟩, List.mem_of_getElem? (i := 298) (by decide +kernel), List.mem_of_getElem? (i := 498) (by decide +kernel), List.mem_of_getElem? (i := 499) (by decide +kernel)⟩
theorem lw_p10 : lw_okq (⟨"LayeredCards$Game", "has", "(I)Z"⟩, 15) := ⟨⟨by decide +kernel, by decide +kernel⟩, List.mem_of_getElem? (i := 69) (by decide +kernel), List.mem_of_getElem? (i := 508) (by decide +kernel), List.mem_of_getElem? (i := 509) (by decide +kernel)⟩
theorem lw_p11 : lw_okq (⟨"LayeredCards$Game", "moveTo", "(II)V"⟩, 15) := ⟨⟨by decide +kernel, by decide +kernel⟩, List.mem_of_getElem? (i := 69) (by decide +kernel), List.mem_of_getElem? (i := 516) (by decide +kernel), List.mem_of_getElem? (i := 517) (by decide +kernel)⟩
theorem lw_p12 : lw_okq (⟨"LayeredCards$Game", "countIn", "(II)I"⟩, 15) := ⟨⟨by decide +kernel, by decide +kernel⟩, List.mem_of_getElem? (i := 69) (by decide +kernel), List.mem_of_getElem? (i := 534) (by decide +kernel), List.mem_of_getElem? (i := 535) (by decide +kernel)⟩
theorem lw_p13 : lw_okq (⟨"LayeredCards$Layering", "workOut", "(LLayeredCards$Game;)V"⟩, 7) := ⟨⟨by decide +kernel, by decide +kernel⟩, List.mem_of_getElem? (i := 177) (by decide +kernel), List.mem_of_getElem? (i := 543) (by decide +kernel), List.mem_of_getElem? (i := 544) (by decide +kernel)⟩
theorem lw_p14 : lw_okq (⟨"LayeredCards$Layering", "gather", "(LLayeredCards$Game;)V"⟩, 7) := ⟨⟨by decide +kernel, by decide +kernel⟩, List.mem_of_getElem? (i := 177) (by decide +kernel), List.mem_of_getElem? (i := 556) (by decide +kernel), List.mem_of_getElem? (i := 557) (by decide +kernel)⟩
theorem lw_p15 : lw_okq (⟨"LayeredCards$Layering", "countOn", "(II)V"⟩, 7) := ⟨⟨by decide +kernel, by decide +kernel⟩, List.mem_of_getElem? (i := 177) (by decide +kernel), List.mem_of_getElem? (i := 565) (by decide +kernel), List.mem_of_getElem? (i := 566) (by decide +kernel)⟩
def lw_privs_1 : List (MethodName × Nat) := [(⟨"LayeredCards$Game", "addCard", "(IIII)I"⟩, 15), (⟨"LayeredCards$Cards", "write", "(IIIII)V"⟩, 5), (⟨"LayeredCards$Tape", "append", "(I)Z"⟩, 8), (⟨"LayeredCards", "deckOnTape", "()I"⟩, 16), (⟨"LayeredCards$Tape", "readText", "()I"⟩, 8), (⟨"LayeredCards$Tape", "readLine", "()Z"⟩, 8), (⟨"LayeredCards$Tape", "readWord", "()I"⟩, 8), (⟨"LayeredCards$Tape", "lettersAlike", "(I)I"⟩, 8), (⟨"LayeredCards$Tape", "readDigit", "(I)I"⟩, 8), (⟨"LayeredCards$Tape", "skip", "(I)Z"⟩, 8), (⟨"LayeredCards$Game", "has", "(I)Z"⟩, 15), (⟨"LayeredCards$Game", "moveTo", "(II)V"⟩, 15), (⟨"LayeredCards$Game", "countIn", "(II)I"⟩, 15), (⟨"LayeredCards$Layering", "workOut", "(LLayeredCards$Game;)V"⟩, 7), (⟨"LayeredCards$Layering", "gather", "(LLayeredCards$Game;)V"⟩, 7), (⟨"LayeredCards$Layering", "countOn", "(II)V"⟩, 7)]
theorem lw_r1 : ∀ q ∈ lw_privs_1, lw_okq q := List.forall_mem_cons.mpr ⟨lw_p0, List.forall_mem_cons.mpr ⟨lw_p1, List.forall_mem_cons.mpr ⟨lw_p2, List.forall_mem_cons.mpr ⟨lw_p3, List.forall_mem_cons.mpr ⟨lw_p4, List.forall_mem_cons.mpr ⟨lw_p5, List.forall_mem_cons.mpr ⟨lw_p6, List.forall_mem_cons.mpr ⟨lw_p7, List.forall_mem_cons.mpr ⟨lw_p8, List.forall_mem_cons.mpr ⟨lw_p9, List.forall_mem_cons.mpr ⟨lw_p10, List.forall_mem_cons.mpr ⟨lw_p11, List.forall_mem_cons.mpr ⟨lw_p12, List.forall_mem_cons.mpr ⟨lw_p13, List.forall_mem_cons.mpr ⟨lw_p14, List.forall_mem_cons.mpr ⟨lw_p15, fun _ h => absurd h List.not_mem_nil⟩⟩⟩⟩⟩⟩⟩⟩⟩⟩⟩⟩⟩⟩⟩⟩
theorem lw_p16 : lw_okq (⟨"LayeredCards$Layering", "takeNext", "()I"⟩, 7) := ⟨⟨by decide +kernel, by decide +kernel⟩, List.mem_of_getElem? (i := 177) (by decide +kernel), List.mem_of_getElem? (i := 569) (by decide +kernel), List.mem_of_getElem? (i := 570) (by decide +kernel)⟩
theorem lw_p17 : lw_okq (⟨"LayeredCards$Layering", "waits", "(I)Z"⟩, 7) := ⟨⟨by decide +kernel, by decide +kernel⟩, List.mem_of_getElem? (i := 177) (by decide +kernel), List.mem_of_getElem? (i := 573) (by decide +kernel), List.mem_of_getElem? (i := 574) (by decide +kernel)⟩
theorem lw_p18 : lw_okq (⟨"LayeredCards$Layering", "use", "(I)V"⟩, 7) := ⟨⟨by decide +kernel, by decide +kernel⟩, List.mem_of_getElem? (i := 177) (by decide +kernel), List.mem_of_getElem? (i := 580) (by decide +kernel), List.mem_of_getElem? (i := 581) (by decide +kernel)⟩
theorem lw_p19 : lw_okq (⟨"LayeredCards", "isLayerOnTable", "(I)Z"⟩, 16) := ⟨⟨by decide +kernel, by decide +kernel⟩, List.mem_of_getElem? (i := 18) (by decide +kernel), List.mem_of_getElem? (i := 598) (by decide +kernel), List.mem_of_getElem? (i := 599) (by decide +kernel)⟩
theorem lw_p20 : lw_okq (⟨"LayeredCards$Event", "becomeTold", "(I)V"⟩, 7) := ⟨⟨by decide +kernel, by decide +kernel⟩, List.mem_of_getElem? (i := 209) (by decide +kernel), List.mem_of_getElem? (i := 608) (by decide +kernel), List.mem_of_getElem? (i := 609) (by decide +kernel)⟩
theorem lw_p21 : lw_okq (⟨"LayeredCards$Event", "become", "(III)V"⟩, 7) := ⟨⟨by decide +kernel, by decide +kernel⟩, List.mem_of_getElem? (i := 209) (by decide +kernel), List.mem_of_getElem? (i := 612) (by decide +kernel), List.mem_of_getElem? (i := 613) (by decide +kernel)⟩
theorem lw_p22 : lw_okq (⟨"LayeredCards$Event", "replaceBy", "(LLayeredCards$Game;)V"⟩, 7) := ⟨⟨by decide +kernel, by decide +kernel⟩, List.mem_of_getElem? (i := 209) (by decide +kernel), List.mem_of_getElem? (i := 617) (by decide +kernel), List.mem_of_getElem? (i := 618) (by decide +kernel)⟩
theorem lw_p23 : lw_okq (⟨"LayeredCards$Event", "fits", "(I)Z"⟩, 7) := ⟨⟨by decide +kernel, by decide +kernel⟩, List.mem_of_getElem? (i := 209) (by decide +kernel), List.mem_of_getElem? (i := 622) (by decide +kernel), List.mem_of_getElem? (i := 623) (by decide +kernel)⟩
theorem lw_p24 : lw_okq (⟨"LayeredCards$Event", "use", "(I)V"⟩, 7) := ⟨⟨by decide +kernel, by decide +kernel⟩, List.mem_of_getElem? (i := 209) (by decide +kernel), List.mem_of_getElem? (i := 627) (by decide +kernel), List.mem_of_getElem? (i := 628) (by decide +kernel)⟩
theorem lw_p25 : lw_okq (⟨"LayeredCards$Event", "told", "()I"⟩, 7) := ⟨⟨by decide +kernel, by decide +kernel⟩, List.mem_of_getElem? (i := 209) (by decide +kernel), List.mem_of_getElem? (i := 635) (by decide +kernel), List.mem_of_getElem? (i := 636) (by decide +kernel)⟩
theorem lw_p26 : lw_okq (⟨"LayeredCards$Game", "playCard", "(I)V"⟩, 15) := ⟨⟨by decide +kernel, by decide +kernel⟩, List.mem_of_getElem? (i := 69) (by decide +kernel), List.mem_of_getElem? (i := 646) (by decide +kernel), List.mem_of_getElem? (i := 647) (by decide +kernel)⟩
theorem lw_p27 : lw_okq (⟨"LayeredCards$Game", "push", "(I)Z"⟩, 15) := ⟨⟨by decide +kernel, by decide +kernel⟩, List.mem_of_getElem? (i := 69) (by decide +kernel), List.mem_of_getElem? (i := 650) (by decide +kernel), List.mem_of_getElem? (i := 651) (by decide +kernel)⟩
theorem lw_p28 : lw_okq (⟨"LayeredCards$Log", "empty", "()V"⟩, 4) := ⟨⟨by decide +kernel, by decide +kernel⟩, List.mem_of_getElem? (i := 275) (by decide +kernel), List.mem_of_getElem? (i := 663) (by decide +kernel), List.mem_of_getElem? (i := 664) (by decide +kernel)⟩
theorem lw_p29 : lw_okq (⟨"LayeredCards$Rules", "resolveTop", "(LLayeredCards$Game;LLayeredCards$Log;)V"⟩, 8) := ⟨⟨by decide +kernel, by decide +kernel⟩, List.mem_of_getElem? (i := 148) (by decide +kernel), List.mem_of_getElem? (i := 667) (by decide +kernel), List.mem_of_getElem? (i := 668) (by decide +kernel)⟩
theorem lw_p30 : lw_okq (⟨"LayeredCards$Game", "pop", "()I"⟩, 15) := ⟨⟨by decide +kernel, by decide +kernel⟩, List.mem_of_getElem? (i := 69) (by decide +kernel), List.mem_of_getElem? (i := 671) (by decide +kernel), List.mem_of_getElem? (i := 672) (by decide +kernel)⟩
theorem lw_p31 : lw_okq (⟨"LayeredCards$Log", "addThing", "(I)V"⟩, 4) := ⟨⟨by decide +kernel, by decide +kernel⟩, List.mem_of_getElem? (i := 275) (by decide +kernel), List.mem_of_getElem? (i := 675) (by decide +kernel), List.mem_of_getElem? (i := 676) (by decide +kernel)⟩
def lw_privs_2 : List (MethodName × Nat) := [(⟨"LayeredCards$Layering", "takeNext", "()I"⟩, 7), (⟨"LayeredCards$Layering", "waits", "(I)Z"⟩, 7), (⟨"LayeredCards$Layering", "use", "(I)V"⟩, 7), (⟨"LayeredCards", "isLayerOnTable", "(I)Z"⟩, 16), (⟨"LayeredCards$Event", "becomeTold", "(I)V"⟩, 7), (⟨"LayeredCards$Event", "become", "(III)V"⟩, 7), (⟨"LayeredCards$Event", "replaceBy", "(LLayeredCards$Game;)V"⟩, 7), (⟨"LayeredCards$Event", "fits", "(I)Z"⟩, 7), (⟨"LayeredCards$Event", "use", "(I)V"⟩, 7), (⟨"LayeredCards$Event", "told", "()I"⟩, 7), (⟨"LayeredCards$Game", "playCard", "(I)V"⟩, 15), (⟨"LayeredCards$Game", "push", "(I)Z"⟩, 15), (⟨"LayeredCards$Log", "empty", "()V"⟩, 4), (⟨"LayeredCards$Rules", "resolveTop", "(LLayeredCards$Game;LLayeredCards$Log;)V"⟩, 8), (⟨"LayeredCards$Game", "pop", "()I"⟩, 15), (⟨"LayeredCards$Log", "addThing", "(I)V"⟩, 4)]
theorem lw_r2 : ∀ q ∈ lw_privs_2, lw_okq q := List.forall_mem_cons.mpr ⟨lw_p16, List.forall_mem_cons.mpr ⟨lw_p17, List.forall_mem_cons.mpr ⟨lw_p18, List.forall_mem_cons.mpr ⟨lw_p19, List.forall_mem_cons.mpr ⟨lw_p20, List.forall_mem_cons.mpr ⟨lw_p21, List.forall_mem_cons.mpr ⟨lw_p22, List.forall_mem_cons.mpr ⟨lw_p23, List.forall_mem_cons.mpr ⟨lw_p24, List.forall_mem_cons.mpr ⟨lw_p25, List.forall_mem_cons.mpr ⟨lw_p26, List.forall_mem_cons.mpr ⟨lw_p27, List.forall_mem_cons.mpr ⟨lw_p28, List.forall_mem_cons.mpr ⟨lw_p29, List.forall_mem_cons.mpr ⟨lw_p30, List.forall_mem_cons.mpr ⟨lw_p31, fun _ h => absurd h List.not_mem_nil⟩⟩⟩⟩⟩⟩⟩⟩⟩⟩⟩⟩⟩⟩⟩⟩
theorem lw_p32 : lw_okq (⟨"LayeredCards$Rules", "happen", "(LLayeredCards$Game;LLayeredCards$Log;)V"⟩, 8) := ⟨⟨by decide +kernel, by decide +kernel⟩, List.mem_of_getElem? (i := 148) (by decide +kernel), List.mem_of_getElem? (i := 681) (by decide +kernel), List.mem_of_getElem? (i := 682) (by decide +kernel)⟩
theorem lw_p33 : lw_okq (⟨"LayeredCards$Log", "addEvent", "(I)V"⟩, 4) := ⟨⟨by decide +kernel, by decide +kernel⟩, List.mem_of_getElem? (i := 275) (by decide +kernel), List.mem_of_getElem? (i := 687) (by decide +kernel), List.mem_of_getElem? (i := 688) (by decide +kernel)⟩
theorem lw_p34 : lw_okq (⟨"LayeredCards$Game", "changeLife", "(II)V"⟩, 15) := ⟨⟨by decide +kernel, by decide +kernel⟩, List.mem_of_getElem? (i := 69) (by decide +kernel), List.mem_of_getElem? (i := 691) (by decide +kernel), List.mem_of_getElem? (i := 692) (by decide +kernel)⟩
theorem lw_p35 : lw_okq (⟨"LayeredCards$Game", "drawOne", "(I)V"⟩, 15) := ⟨⟨by decide +kernel, by decide +kernel⟩, List.mem_of_getElem? (i := 69) (by decide +kernel), List.mem_of_getElem? (i := 696) (by decide +kernel), List.mem_of_getElem? (i := 697) (by decide +kernel)⟩
theorem lw_p36 : lw_okq (⟨"LayeredCards$Game", "nthIn", "(III)I"⟩, 15) := ⟨⟨by decide +kernel, by decide +kernel⟩, List.mem_of_getElem? (i := 69) (by decide +kernel), List.mem_of_getElem? (i := 709) (by decide +kernel), List.mem_of_getElem? (i := 710) (by decide +kernel)⟩
theorem lw_p37 : lw_okq (⟨"LayeredCards$Rules", "castShadows", "(LLayeredCards$Game;)V"⟩, 8) := ⟨⟨by decide +kernel, by decide +kernel⟩, List.mem_of_getElem? (i := 148) (by decide +kernel), List.mem_of_getElem? (i := 713) (by decide +kernel), List.mem_of_getElem? (i := 714) (by decide +kernel)⟩
theorem lw_p38 : lw_okq (⟨"LayeredCards$Game", "layDown", "(I)V"⟩, 15) := ⟨⟨by decide +kernel, by decide +kernel⟩, List.mem_of_getElem? (i := 69) (by decide +kernel), List.mem_of_getElem? (i := 722) (by decide +kernel), List.mem_of_getElem? (i := 723) (by decide +kernel)⟩
theorem lw_p39 : lw_okq (⟨"LayeredCards$Rules", "stopTop", "(LLayeredCards$Game;)V"⟩, 8) := ⟨⟨by decide +kernel, by decide +kernel⟩, List.mem_of_getElem? (i := 148) (by decide +kernel), List.mem_of_getElem? (i := 727) (by decide +kernel), List.mem_of_getElem? (i := 728) (by decide +kernel)⟩
theorem lw_p40 : lw_okq (⟨"LayeredCards$Rules", "clearYoungest", "(LLayeredCards$Game;I)V"⟩, 8) := ⟨⟨by decide +kernel, by decide +kernel⟩, List.mem_of_getElem? (i := 148) (by decide +kernel), List.mem_of_getElem? (i := 731) (by decide +kernel), List.mem_of_getElem? (i := 732) (by decide +kernel)⟩
theorem lw_p41 : lw_okq (⟨"LayeredCards$Game", "takeOff", "(I)V"⟩, 15) := ⟨⟨by decide +kernel, by decide +kernel⟩, List.mem_of_getElem? (i := 69) (by decide +kernel), List.mem_of_getElem? (i := 735) (by decide +kernel), List.mem_of_getElem? (i := 736) (by decide +kernel)⟩
theorem lw_p42 : lw_okq (⟨"LayeredCards$Rules", "begin", "(III)V"⟩, 8) := ⟨⟨by decide +kernel, by decide +kernel⟩, List.mem_of_getElem? (i := 148) (by decide +kernel), List.mem_of_getElem? (i := 740) (by decide +kernel), List.mem_of_getElem? (i := 741) (by decide +kernel)⟩
theorem lw_p43 : lw_okq (⟨"LayeredCards$Rules", "runPile", "(LLayeredCards$Game;LLayeredCards$Log;)V"⟩, 8) := ⟨⟨by decide +kernel, by decide +kernel⟩, List.mem_of_getElem? (i := 148) (by decide +kernel), List.mem_of_getElem? (i := 749) (by decide +kernel), List.mem_of_getElem? (i := 750) (by decide +kernel)⟩
theorem lw_p44 : lw_okq (⟨"LayeredCards$Rules", "hasEnded", "(LLayeredCards$Game;)Z"⟩, 8) := ⟨⟨by decide +kernel, by decide +kernel⟩, List.mem_of_getElem? (i := 148) (by decide +kernel), List.mem_of_getElem? (i := 753) (by decide +kernel), List.mem_of_getElem? (i := 754) (by decide +kernel)⟩
theorem lw_p45 : lw_okq (⟨"LayeredCards$Game", "lostBits", "()I"⟩, 15) := ⟨⟨by decide +kernel, by decide +kernel⟩, List.mem_of_getElem? (i := 69) (by decide +kernel), List.mem_of_getElem? (i := 757) (by decide +kernel), List.mem_of_getElem? (i := 758) (by decide +kernel)⟩
theorem lw_p46 : lw_okq (⟨"LayeredCards$Past", "keep", "(ILLayeredCards$Game;)V"⟩, 5) := ⟨⟨by decide +kernel, by decide +kernel⟩, List.mem_of_getElem? (i := 154) (by decide +kernel), List.mem_of_getElem? (i := 761) (by decide +kernel), List.mem_of_getElem? (i := 762) (by decide +kernel)⟩
theorem lw_p47 : lw_okq (⟨"LayeredCards$Past", "sameAs", "(I)I"⟩, 5) := ⟨⟨by decide +kernel, by decide +kernel⟩, List.mem_of_getElem? (i := 154) (by decide +kernel), List.mem_of_getElem? (i := 767) (by decide +kernel), List.mem_of_getElem? (i := 768) (by decide +kernel)⟩
def lw_privs_3 : List (MethodName × Nat) := [(⟨"LayeredCards$Rules", "happen", "(LLayeredCards$Game;LLayeredCards$Log;)V"⟩, 8), (⟨"LayeredCards$Log", "addEvent", "(I)V"⟩, 4), (⟨"LayeredCards$Game", "changeLife", "(II)V"⟩, 15), (⟨"LayeredCards$Game", "drawOne", "(I)V"⟩, 15), (⟨"LayeredCards$Game", "nthIn", "(III)I"⟩, 15), (⟨"LayeredCards$Rules", "castShadows", "(LLayeredCards$Game;)V"⟩, 8), (⟨"LayeredCards$Game", "layDown", "(I)V"⟩, 15), (⟨"LayeredCards$Rules", "stopTop", "(LLayeredCards$Game;)V"⟩, 8), (⟨"LayeredCards$Rules", "clearYoungest", "(LLayeredCards$Game;I)V"⟩, 8), (⟨"LayeredCards$Game", "takeOff", "(I)V"⟩, 15), (⟨"LayeredCards$Rules", "begin", "(III)V"⟩, 8), (⟨"LayeredCards$Rules", "runPile", "(LLayeredCards$Game;LLayeredCards$Log;)V"⟩, 8), (⟨"LayeredCards$Rules", "hasEnded", "(LLayeredCards$Game;)Z"⟩, 8), (⟨"LayeredCards$Game", "lostBits", "()I"⟩, 15), (⟨"LayeredCards$Past", "keep", "(ILLayeredCards$Game;)V"⟩, 5), (⟨"LayeredCards$Past", "sameAs", "(I)I"⟩, 5)]
theorem lw_r3 : ∀ q ∈ lw_privs_3, lw_okq q := List.forall_mem_cons.mpr ⟨lw_p32, List.forall_mem_cons.mpr ⟨lw_p33, List.forall_mem_cons.mpr ⟨lw_p34, List.forall_mem_cons.mpr ⟨lw_p35, List.forall_mem_cons.mpr ⟨lw_p36, List.forall_mem_cons.mpr ⟨lw_p37, List.forall_mem_cons.mpr ⟨lw_p38, List.forall_mem_cons.mpr ⟨lw_p39, List.forall_mem_cons.mpr ⟨lw_p40, List.forall_mem_cons.mpr ⟨lw_p41, List.forall_mem_cons.mpr ⟨lw_p42, List.forall_mem_cons.mpr ⟨lw_p43, List.forall_mem_cons.mpr ⟨lw_p44, List.forall_mem_cons.mpr ⟨lw_p45, List.forall_mem_cons.mpr ⟨lw_p46, List.forall_mem_cons.mpr ⟨lw_p47, fun _ h => absurd h List.not_mem_nil⟩⟩⟩⟩⟩⟩⟩⟩⟩⟩⟩⟩⟩⟩⟩⟩
theorem lw_p48 : lw_okq (⟨"LayeredCards$Past", "samePiles", "(II)Z"⟩, 5) := ⟨⟨by decide +kernel, by decide +kernel⟩, List.mem_of_getElem? (i := 154) (by decide +kernel), List.mem_of_getElem? (i := 771) (by decide +kernel), List.mem_of_getElem? (i := 772) (by decide +kernel)⟩
theorem lw_p49 : lw_okq (⟨"LayeredCards$Game", "isQuiet", "()Z"⟩, 15) := ⟨⟨by decide +kernel, by decide +kernel⟩, List.mem_of_getElem? (i := 69) (by decide +kernel), List.mem_of_getElem? (i := 784) (by decide +kernel), List.mem_of_getElem? (i := 785) (by decide +kernel)⟩
theorem lw_p50 : lw_okq (⟨"LayeredCards$Rules", "takeTurn", "(LLayeredCards$Game;LLayeredCards$Log;)V"⟩, 8) := ⟨⟨by decide +kernel, by decide +kernel⟩, List.mem_of_getElem? (i := 148) (by decide +kernel), List.mem_of_getElem? (i := 789) (by decide +kernel), List.mem_of_getElem? (i := 790) (by decide +kernel)⟩
theorem lw_p51 : lw_okq (⟨"LayeredCards$Game", "copyFrom", "(LLayeredCards$Game;)V"⟩, 15) := ⟨⟨by decide +kernel, by decide +kernel⟩, List.mem_of_getElem? (i := 69) (by decide +kernel), List.mem_of_getElem? (i := 799) (by decide +kernel), List.mem_of_getElem? (i := 800) (by decide +kernel)⟩
theorem lw_p52 : lw_okq (⟨"LayeredCards", "worthPlayed", "(I)I"⟩, 16) := ⟨⟨by decide +kernel, by decide +kernel⟩, List.mem_of_getElem? (i := 18) (by decide +kernel), List.mem_of_getElem? (i := 808) (by decide +kernel), List.mem_of_getElem? (i := 809) (by decide +kernel)⟩
theorem lw_p53 : lw_okq (⟨"LayeredCards$Game", "worthTo", "(I)I"⟩, 15) := ⟨⟨by decide +kernel, by decide +kernel⟩, List.mem_of_getElem? (i := 69) (by decide +kernel), List.mem_of_getElem? (i := 812) (by decide +kernel), List.mem_of_getElem? (i := 813) (by decide +kernel)⟩
theorem lw_p54 : lw_okq (⟨"LayeredCards", "runWithout", "(I)V"⟩, 16) := ⟨⟨by decide +kernel, by decide +kernel⟩, List.mem_of_getElem? (i := 18) (by decide +kernel), List.mem_of_getElem? (i := 832) (by decide +kernel), List.mem_of_getElem? (i := 833) (by decide +kernel)⟩
theorem lw_p55 : lw_okq (⟨"LayeredCardsModel", "add", "(IIIII)I"⟩, 35) := ⟨⟨by decide +kernel, by decide +kernel⟩, List.mem_of_getElem? (i := 882) (by decide +kernel), List.mem_of_getElem? (i := 1003) (by decide +kernel), List.mem_of_getElem? (i := 1004) (by decide +kernel)⟩
theorem lw_p56 : lw_okq (⟨"LayeredCardsModel", "lines", "(Z)I"⟩, 35) := ⟨⟨by decide +kernel, by decide +kernel⟩, List.mem_of_getElem? (i := 882) (by decide +kernel), List.mem_of_getElem? (i := 1015) (by decide +kernel), List.mem_of_getElem? (i := 1016) (by decide +kernel)⟩
theorem lw_p57 : lw_okq (⟨"LayeredCardsModel", "line", "(Z)V"⟩, 35) := ⟨⟨by decide +kernel, by decide +kernel⟩, List.mem_of_getElem? (i := 882) (by decide +kernel), List.mem_of_getElem? (i := 1019) (by decide +kernel), List.mem_of_getElem? (i := 1020) (by decide +kernel)⟩
theorem lw_p58 : lw_okq (⟨"LayeredCardsModel", "wordHere", "()I"⟩, 35) := ⟨⟨by decide +kernel, by decide +kernel⟩, List.mem_of_getElem? (i := 882) (by decide +kernel), List.mem_of_getElem? (i := 1023) (by decide +kernel), List.mem_of_getElem? (i := 1024) (by decide +kernel)⟩
theorem lw_p59 : lw_okq (⟨"LayeredCardsModel", "goes", "(Ljava/lang/String;)I"⟩, 35) := ⟨⟨by decide +kernel, by decide +kernel⟩, List.mem_of_getElem? (i := 882) (by decide +kernel), List.mem_of_getElem? (i := 1045) (by decide +kernel), List.mem_of_getElem? (i := 1046) (by decide +kernel)⟩
theorem lw_p60 : lw_okq (⟨"LayeredCardsModel", "digit", "(I)I"⟩, 35) := ⟨⟨by decide +kernel, by decide +kernel⟩, List.mem_of_getElem? (i := 882) (by decide +kernel), List.mem_of_getElem? (i := 1051) (by decide +kernel), List.mem_of_getElem? (i := 1052) (by decide +kernel)⟩
theorem lw_p61 : lw_okq (⟨"LayeredCardsModel", "must", "(II)I"⟩, 35) := ⟨⟨by decide +kernel, by decide +kernel⟩, List.mem_of_getElem? (i := 882) (by decide +kernel), List.mem_of_getElem? (i := 1055) (by decide +kernel), List.mem_of_getElem? (i := 1056) (by decide +kernel)⟩
theorem lw_p62 : lw_okq (⟨"LayeredCardsModel", "sees", "(II)Z"⟩, 35) := ⟨⟨by decide +kernel, by decide +kernel⟩, List.mem_of_getElem? (i := 882) (by decide +kernel), List.mem_of_getElem? (i := 1059) (by decide +kernel), List.mem_of_getElem? (i := 1060) (by decide +kernel)⟩
theorem lw_p63 : lw_okq (⟨"LayeredCardsModel", "isCard", "(I)Z"⟩, 35) := ⟨⟨by decide +kernel, by decide +kernel⟩, List.mem_of_getElem? (i := 882) (by decide +kernel), List.mem_of_getElem? (i := 1067) (by decide +kernel), List.mem_of_getElem? (i := 1068) (by decide +kernel)⟩
def lw_privs_4 : List (MethodName × Nat) := [(⟨"LayeredCards$Past", "samePiles", "(II)Z"⟩, 5), (⟨"LayeredCards$Game", "isQuiet", "()Z"⟩, 15), (⟨"LayeredCards$Rules", "takeTurn", "(LLayeredCards$Game;LLayeredCards$Log;)V"⟩, 8), (⟨"LayeredCards$Game", "copyFrom", "(LLayeredCards$Game;)V"⟩, 15), (⟨"LayeredCards", "worthPlayed", "(I)I"⟩, 16), (⟨"LayeredCards$Game", "worthTo", "(I)I"⟩, 15), (⟨"LayeredCards", "runWithout", "(I)V"⟩, 16), (⟨"LayeredCardsModel", "add", "(IIIII)I"⟩, 35), (⟨"LayeredCardsModel", "lines", "(Z)I"⟩, 35), (⟨"LayeredCardsModel", "line", "(Z)V"⟩, 35), (⟨"LayeredCardsModel", "wordHere", "()I"⟩, 35), (⟨"LayeredCardsModel", "goes", "(Ljava/lang/String;)I"⟩, 35), (⟨"LayeredCardsModel", "digit", "(I)I"⟩, 35), (⟨"LayeredCardsModel", "must", "(II)I"⟩, 35), (⟨"LayeredCardsModel", "sees", "(II)Z"⟩, 35), (⟨"LayeredCardsModel", "isCard", "(I)Z"⟩, 35)]
theorem lw_r4 : ∀ q ∈ lw_privs_4, lw_okq q := List.forall_mem_cons.mpr ⟨lw_p48, List.forall_mem_cons.mpr ⟨lw_p49, List.forall_mem_cons.mpr ⟨lw_p50, List.forall_mem_cons.mpr ⟨lw_p51, List.forall_mem_cons.mpr ⟨lw_p52, List.forall_mem_cons.mpr ⟨lw_p53, List.forall_mem_cons.mpr ⟨lw_p54, List.forall_mem_cons.mpr ⟨lw_p55, List.forall_mem_cons.mpr ⟨lw_p56, List.forall_mem_cons.mpr ⟨lw_p57, List.forall_mem_cons.mpr ⟨lw_p58, List.forall_mem_cons.mpr ⟨lw_p59, List.forall_mem_cons.mpr ⟨lw_p60, List.forall_mem_cons.mpr ⟨lw_p61, List.forall_mem_cons.mpr ⟨lw_p62, List.forall_mem_cons.mpr ⟨lw_p63, fun _ h => absurd h List.not_mem_nil⟩⟩⟩⟩⟩⟩⟩⟩⟩⟩⟩⟩⟩⟩⟩⟩
theorem lw_p64 : lw_okq (⟨"LayeredCardsModel", "isAt", "(II)Z"⟩, 35) := ⟨⟨by decide +kernel, by decide +kernel⟩, List.mem_of_getElem? (i := 882) (by decide +kernel), List.mem_of_getElem? (i := 1071) (by decide +kernel), List.mem_of_getElem? (i := 1072) (by decide +kernel)⟩
theorem lw_p65 : lw_okq (⟨"LayeredCardsModel", "manyAt", "(II)I"⟩, 35) := ⟨⟨by decide +kernel, by decide +kernel⟩, List.mem_of_getElem? (i := 882) (by decide +kernel), List.mem_of_getElem? (i := 1092) (by decide +kernel), List.mem_of_getElem? (i := 1093) (by decide +kernel)⟩
theorem lw_p66 : lw_okq (⟨"LayeredCardsModel", "valueNow", "(I)I"⟩, 35) := ⟨⟨by decide +kernel, by decide +kernel⟩, List.mem_of_getElem? (i := 882) (by decide +kernel), List.mem_of_getElem? (i := 1100) (by decide +kernel), List.mem_of_getElem? (i := 1101) (by decide +kernel)⟩
theorem lw_p67 : lw_okq (⟨"LayeredCardsModel", "layered", "()V"⟩, 35) := ⟨⟨by decide +kernel, by decide +kernel⟩, List.mem_of_getElem? (i := 882) (by decide +kernel), List.mem_of_getElem? (i := 1104) (by decide +kernel), List.mem_of_getElem? (i := 1105) (by decide +kernel)⟩
theorem lw_p68 : lw_okq (⟨"LayeredCardsModel", "nextLayer", "(Z)I"⟩, 35) := ⟨⟨by decide +kernel, by decide +kernel⟩, List.mem_of_getElem? (i := 882) (by decide +kernel), List.mem_of_getElem? (i := 1108) (by decide +kernel), List.mem_of_getElem? (i := 1109) (by decide +kernel)⟩
theorem lw_p69 : lw_okq (⟨"LayeredCardsModel", "isLayer", "(I)Z"⟩, 35) := ⟨⟨by decide +kernel, by decide +kernel⟩, List.mem_of_getElem? (i := 882) (by decide +kernel), List.mem_of_getElem? (i := 1112) (by decide +kernel), List.mem_of_getElem? (i := 1113) (by decide +kernel)⟩
theorem lw_p70 : lw_okq (⟨"LayeredCardsModel", "isUsed", "(I)Z"⟩, 35) := ⟨⟨by decide +kernel, by decide +kernel⟩, List.mem_of_getElem? (i := 882) (by decide +kernel), List.mem_of_getElem? (i := 1116) (by decide +kernel), List.mem_of_getElem? (i := 1117) (by decide +kernel)⟩
theorem lw_p71 : lw_okq (⟨"LayeredCardsModel", "isFree", "(I)Z"⟩, 35) := ⟨⟨by decide +kernel, by decide +kernel⟩, List.mem_of_getElem? (i := 882) (by decide +kernel), List.mem_of_getElem? (i := 1120) (by decide +kernel), List.mem_of_getElem? (i := 1121) (by decide +kernel)⟩
theorem lw_p72 : lw_okq (⟨"LayeredCardsModel", "hangs", "(II)Z"⟩, 35) := ⟨⟨by decide +kernel, by decide +kernel⟩, List.mem_of_getElem? (i := 882) (by decide +kernel), List.mem_of_getElem? (i := 1124) (by decide +kernel), List.mem_of_getElem? (i := 1125) (by decide +kernel)⟩
theorem lw_p73 : lw_okq (⟨"LayeredCardsModel", "use", "(I)V"⟩, 35) := ⟨⟨by decide +kernel, by decide +kernel⟩, List.mem_of_getElem? (i := 882) (by decide +kernel), List.mem_of_getElem? (i := 1128) (by decide +kernel), List.mem_of_getElem? (i := 1129) (by decide +kernel)⟩
theorem lw_p74 : lw_okq (⟨"LayeredCardsModel", "replaced", "(III)V"⟩, 35) := ⟨⟨by decide +kernel, by decide +kernel⟩, List.mem_of_getElem? (i := 882) (by decide +kernel), List.mem_of_getElem? (i := 1147) (by decide +kernel), List.mem_of_getElem? (i := 1148) (by decide +kernel)⟩
theorem lw_p75 : lw_okq (⟨"LayeredCardsModel", "nextReplacer", "()I"⟩, 35) := ⟨⟨by decide +kernel, by decide +kernel⟩, List.mem_of_getElem? (i := 882) (by decide +kernel), List.mem_of_getElem? (i := 1151) (by decide +kernel), List.mem_of_getElem? (i := 1152) (by decide +kernel)⟩
theorem lw_p76 : lw_okq (⟨"LayeredCardsModel", "fits", "(I)Z"⟩, 35) := ⟨⟨by decide +kernel, by decide +kernel⟩, List.mem_of_getElem? (i := 882) (by decide +kernel), List.mem_of_getElem? (i := 1155) (by decide +kernel), List.mem_of_getElem? (i := 1156) (by decide +kernel)⟩
theorem lw_p77 : lw_okq (⟨"LayeredCardsModel", "wasUsed", "(I)Z"⟩, 35) := ⟨⟨by decide +kernel, by decide +kernel⟩, List.mem_of_getElem? (i := 882) (by decide +kernel), List.mem_of_getElem? (i := 1159) (by decide +kernel), List.mem_of_getElem? (i := 1160) (by decide +kernel)⟩
theorem lw_p78 : lw_okq (⟨"LayeredCardsModel", "playIt", "(I)V"⟩, 35) := ⟨⟨by decide +kernel, by decide +kernel⟩, List.mem_of_getElem? (i := 882) (by decide +kernel), List.mem_of_getElem? (i := 1167) (by decide +kernel), List.mem_of_getElem? (i := 1168) (by decide +kernel)⟩
theorem lw_p79 : lw_okq (⟨"LayeredCardsModel", "push", "(I)V"⟩, 35) := ⟨⟨by decide +kernel, by decide +kernel⟩, List.mem_of_getElem? (i := 882) (by decide +kernel), List.mem_of_getElem? (i := 1171) (by decide +kernel), List.mem_of_getElem? (i := 1172) (by decide +kernel)⟩
def lw_privs_5 : List (MethodName × Nat) := [(⟨"LayeredCardsModel", "isAt", "(II)Z"⟩, 35), (⟨"LayeredCardsModel", "manyAt", "(II)I"⟩, 35), (⟨"LayeredCardsModel", "valueNow", "(I)I"⟩, 35), (⟨"LayeredCardsModel", "layered", "()V"⟩, 35), (⟨"LayeredCardsModel", "nextLayer", "(Z)I"⟩, 35), (⟨"LayeredCardsModel", "isLayer", "(I)Z"⟩, 35), (⟨"LayeredCardsModel", "isUsed", "(I)Z"⟩, 35), (⟨"LayeredCardsModel", "isFree", "(I)Z"⟩, 35), (⟨"LayeredCardsModel", "hangs", "(II)Z"⟩, 35), (⟨"LayeredCardsModel", "use", "(I)V"⟩, 35), (⟨"LayeredCardsModel", "replaced", "(III)V"⟩, 35), (⟨"LayeredCardsModel", "nextReplacer", "()I"⟩, 35), (⟨"LayeredCardsModel", "fits", "(I)Z"⟩, 35), (⟨"LayeredCardsModel", "wasUsed", "(I)Z"⟩, 35), (⟨"LayeredCardsModel", "playIt", "(I)V"⟩, 35), (⟨"LayeredCardsModel", "push", "(I)V"⟩, 35)]
theorem lw_r5 : ∀ q ∈ lw_privs_5, lw_okq q := List.forall_mem_cons.mpr ⟨lw_p64, List.forall_mem_cons.mpr ⟨lw_p65, List.forall_mem_cons.mpr ⟨lw_p66, List.forall_mem_cons.mpr ⟨lw_p67, List.forall_mem_cons.mpr ⟨lw_p68, List.forall_mem_cons.mpr ⟨lw_p69, List.forall_mem_cons.mpr ⟨lw_p70, List.forall_mem_cons.mpr ⟨lw_p71, List.forall_mem_cons.mpr ⟨lw_p72, List.forall_mem_cons.mpr ⟨lw_p73, List.forall_mem_cons.mpr ⟨lw_p74, List.forall_mem_cons.mpr ⟨lw_p75, List.forall_mem_cons.mpr ⟨lw_p76, List.forall_mem_cons.mpr ⟨lw_p77, List.forall_mem_cons.mpr ⟨lw_p78, List.forall_mem_cons.mpr ⟨lw_p79, fun _ h => absurd h List.not_mem_nil⟩⟩⟩⟩⟩⟩⟩⟩⟩⟩⟩⟩⟩⟩⟩⟩
theorem lw_p80 : lw_okq (⟨"LayeredCardsModel", "traces", "()V"⟩, 35) := ⟨⟨by decide +kernel, by decide +kernel⟩, List.mem_of_getElem? (i := 882) (by decide +kernel), List.mem_of_getElem? (i := 1183) (by decide +kernel), List.mem_of_getElem? (i := 1184) (by decide +kernel)⟩
theorem lw_p81 : lw_okq (⟨"LayeredCardsModel", "resolveTop", "()V"⟩, 35) := ⟨⟨by decide +kernel, by decide +kernel⟩, List.mem_of_getElem? (i := 882) (by decide +kernel), List.mem_of_getElem? (i := 1187) (by decide +kernel), List.mem_of_getElem? (i := 1188) (by decide +kernel)⟩
theorem lw_p82 : lw_okq (⟨"LayeredCardsModel", "event", "(III)V"⟩, 35) := ⟨⟨by decide +kernel, by decide +kernel⟩, List.mem_of_getElem? (i := 882) (by decide +kernel), List.mem_of_getElem? (i := 1191) (by decide +kernel), List.mem_of_getElem? (i := 1192) (by decide +kernel)⟩
theorem lw_p83 : lw_okq (⟨"LayeredCardsModel", "drawOne", "()V"⟩, 35) := ⟨⟨by decide +kernel, by decide +kernel⟩, List.mem_of_getElem? (i := 882) (by decide +kernel), List.mem_of_getElem? (i := 1195) (by decide +kernel), List.mem_of_getElem? (i := 1196) (by decide +kernel)⟩
theorem lw_p84 : lw_okq (⟨"LayeredCardsModel", "draw", "(I)I"⟩, 35) := ⟨⟨by decide +kernel, by decide +kernel⟩, List.mem_of_getElem? (i := 882) (by decide +kernel), List.mem_of_getElem? (i := 1199) (by decide +kernel), List.mem_of_getElem? (i := 1200) (by decide +kernel)⟩
theorem lw_p85 : lw_okq (⟨"LayeredCardsModel", "echoes", "()V"⟩, 35) := ⟨⟨by decide +kernel, by decide +kernel⟩, List.mem_of_getElem? (i := 882) (by decide +kernel), List.mem_of_getElem? (i := 1204) (by decide +kernel), List.mem_of_getElem? (i := 1205) (by decide +kernel)⟩
theorem lw_p86 : lw_okq (⟨"LayeredCardsModel", "answer", "(I)V"⟩, 35) := ⟨⟨by decide +kernel, by decide +kernel⟩, List.mem_of_getElem? (i := 882) (by decide +kernel), List.mem_of_getElem? (i := 1208) (by decide +kernel), List.mem_of_getElem? (i := 1209) (by decide +kernel)⟩
theorem lw_p87 : lw_okq (⟨"LayeredCardsModel", "stop", "()V"⟩, 35) := ⟨⟨by decide +kernel, by decide +kernel⟩, List.mem_of_getElem? (i := 882) (by decide +kernel), List.mem_of_getElem? (i := 1212) (by decide +kernel), List.mem_of_getElem? (i := 1213) (by decide +kernel)⟩
theorem lw_p88 : lw_okq (⟨"LayeredCardsModel", "clear", "(I)V"⟩, 35) := ⟨⟨by decide +kernel, by decide +kernel⟩, List.mem_of_getElem? (i := 882) (by decide +kernel), List.mem_of_getElem? (i := 1216) (by decide +kernel), List.mem_of_getElem? (i := 1217) (by decide +kernel)⟩
theorem lw_p89 : lw_okq (⟨"LayeredCardsModel", "runIt", "()I"⟩, 35) := ⟨⟨by decide +kernel, by decide +kernel⟩, List.mem_of_getElem? (i := 882) (by decide +kernel), List.mem_of_getElem? (i := 1224) (by decide +kernel), List.mem_of_getElem? (i := 1225) (by decide +kernel)⟩
theorem lw_p90 : lw_okq (⟨"LayeredCardsModel", "isLost", "()Z"⟩, 35) := ⟨⟨by decide +kernel, by decide +kernel⟩, List.mem_of_getElem? (i := 882) (by decide +kernel), List.mem_of_getElem? (i := 1228) (by decide +kernel), List.mem_of_getElem? (i := 1229) (by decide +kernel)⟩
theorem lw_p91 : lw_okq (⟨"LayeredCardsModel", "see", "(I)V"⟩, 35) := ⟨⟨by decide +kernel, by decide +kernel⟩, List.mem_of_getElem? (i := 882) (by decide +kernel), List.mem_of_getElem? (i := 1232) (by decide +kernel), List.mem_of_getElem? (i := 1233) (by decide +kernel)⟩
theorem lw_p92 : lw_okq (⟨"LayeredCardsModel", "sameAs", "(I)I"⟩, 35) := ⟨⟨by decide +kernel, by decide +kernel⟩, List.mem_of_getElem? (i := 882) (by decide +kernel), List.mem_of_getElem? (i := 1236) (by decide +kernel), List.mem_of_getElem? (i := 1237) (by decide +kernel)⟩
theorem lw_p93 : lw_okq (⟨"LayeredCardsModel", "turnIt", "()V"⟩, 35) := ⟨⟨by decide +kernel, by decide +kernel⟩, List.mem_of_getElem? (i := 882) (by decide +kernel), List.mem_of_getElem? (i := 1248) (by decide +kernel), List.mem_of_getElem? (i := 1249) (by decide +kernel)⟩
theorem lw_p94 : lw_okq (⟨"LayeredCardsModel", "greatestIn", "(I)I"⟩, 35) := ⟨⟨by decide +kernel, by decide +kernel⟩, List.mem_of_getElem? (i := 882) (by decide +kernel), List.mem_of_getElem? (i := 1252) (by decide +kernel), List.mem_of_getElem? (i := 1253) (by decide +kernel)⟩
theorem lw_p95 : lw_okq (⟨"LayeredCardsModel", "worthIf", "(II)I"⟩, 35) := ⟨⟨by decide +kernel, by decide +kernel⟩, List.mem_of_getElem? (i := 882) (by decide +kernel), List.mem_of_getElem? (i := 1267) (by decide +kernel), List.mem_of_getElem? (i := 1268) (by decide +kernel)⟩
def lw_privs_6 : List (MethodName × Nat) := [(⟨"LayeredCardsModel", "traces", "()V"⟩, 35), (⟨"LayeredCardsModel", "resolveTop", "()V"⟩, 35), (⟨"LayeredCardsModel", "event", "(III)V"⟩, 35), (⟨"LayeredCardsModel", "drawOne", "()V"⟩, 35), (⟨"LayeredCardsModel", "draw", "(I)I"⟩, 35), (⟨"LayeredCardsModel", "echoes", "()V"⟩, 35), (⟨"LayeredCardsModel", "answer", "(I)V"⟩, 35), (⟨"LayeredCardsModel", "stop", "()V"⟩, 35), (⟨"LayeredCardsModel", "clear", "(I)V"⟩, 35), (⟨"LayeredCardsModel", "runIt", "()I"⟩, 35), (⟨"LayeredCardsModel", "isLost", "()Z"⟩, 35), (⟨"LayeredCardsModel", "see", "(I)V"⟩, 35), (⟨"LayeredCardsModel", "sameAs", "(I)I"⟩, 35), (⟨"LayeredCardsModel", "turnIt", "()V"⟩, 35), (⟨"LayeredCardsModel", "greatestIn", "(I)I"⟩, 35), (⟨"LayeredCardsModel", "worthIf", "(II)I"⟩, 35)]
theorem lw_r6 : ∀ q ∈ lw_privs_6, lw_okq q := List.forall_mem_cons.mpr ⟨lw_p80, List.forall_mem_cons.mpr ⟨lw_p81, List.forall_mem_cons.mpr ⟨lw_p82, List.forall_mem_cons.mpr ⟨lw_p83, List.forall_mem_cons.mpr ⟨lw_p84, List.forall_mem_cons.mpr ⟨lw_p85, List.forall_mem_cons.mpr ⟨lw_p86, List.forall_mem_cons.mpr ⟨lw_p87, List.forall_mem_cons.mpr ⟨lw_p88, List.forall_mem_cons.mpr ⟨lw_p89, List.forall_mem_cons.mpr ⟨lw_p90, List.forall_mem_cons.mpr ⟨lw_p91, List.forall_mem_cons.mpr ⟨lw_p92, List.forall_mem_cons.mpr ⟨lw_p93, List.forall_mem_cons.mpr ⟨lw_p94, List.forall_mem_cons.mpr ⟨lw_p95, fun _ h => absurd h List.not_mem_nil⟩⟩⟩⟩⟩⟩⟩⟩⟩⟩⟩⟩⟩⟩⟩⟩
theorem lw_p96 : lw_okq (⟨"LayeredCardsModel", "worthOf", "(I)I"⟩, 35) := ⟨⟨by decide +kernel, by decide +kernel⟩, List.mem_of_getElem? (i := 882) (by decide +kernel), List.mem_of_getElem? (i := 1271) (by decide +kernel), List.mem_of_getElem? (i := 1272) (by decide +kernel)⟩
theorem lw_p97 : lw_okq (⟨"LayeredCardsModel", "reach", "(IIII)I"⟩, 35) := ⟨⟨by decide +kernel, by decide +kernel⟩, List.mem_of_getElem? (i := 882) (by decide +kernel), List.mem_of_getElem? (i := 1303) (by decide +kernel), List.mem_of_getElem? (i := 1304) (by decide +kernel)⟩
theorem lw_p98 : lw_okq (⟨"LayeredCardsModel", "toldBy", "(I)I"⟩, 35) := ⟨⟨by decide +kernel, by decide +kernel⟩, List.mem_of_getElem? (i := 882) (by decide +kernel), List.mem_of_getElem? (i := 1330) (by decide +kernel), List.mem_of_getElem? (i := 1331) (by decide +kernel)⟩
def lw_privs_7 : List (MethodName × Nat) := [(⟨"LayeredCardsModel", "worthOf", "(I)I"⟩, 35), (⟨"LayeredCardsModel", "reach", "(IIII)I"⟩, 35), (⟨"LayeredCardsModel", "toldBy", "(I)I"⟩, 35)]
theorem lw_r7 : ∀ q ∈ lw_privs_7, lw_okq q := List.forall_mem_cons.mpr ⟨lw_p96, List.forall_mem_cons.mpr ⟨lw_p97, List.forall_mem_cons.mpr ⟨lw_p98, fun _ h => absurd h List.not_mem_nil⟩⟩⟩
def lw_privs : List (MethodName × Nat) := lw_privs_1 ++ (lw_privs_2 ++ (lw_privs_3 ++ (lw_privs_4 ++ (lw_privs_5 ++ (lw_privs_6 ++ (lw_privs_7))))))
def lw_tbl : List Cond := k2_sels lw_privs ++ tables_1
theorem lw_privs_ok : ∀ q ∈ lw_privs, lw_okq q := by
  show ∀ q ∈ lw_privs_1 ++ (lw_privs_2 ++ (lw_privs_3 ++ (lw_privs_4 ++ (lw_privs_5 ++ (lw_privs_6 ++ (lw_privs_7)))))), lw_okq q
  exact List.forall_mem_append.mpr ⟨lw_r1, List.forall_mem_append.mpr ⟨lw_r2, List.forall_mem_append.mpr ⟨lw_r3, List.forall_mem_append.mpr ⟨lw_r4, List.forall_mem_append.mpr ⟨lw_r5, List.forall_mem_append.mpr ⟨lw_r6, lw_r7⟩⟩⟩⟩⟩⟩
-- ===== end of PART A; names =====
def R_K : String := "LayeredCards$Cards"
def F_K : u_T := fun k => match k with
  | 0 => ("LayeredCards$Cards", "kinds", "[I", true)
  | 1 => ("LayeredCards$Cards", "owners", "[I", true)
  | 2 => ("LayeredCards$Cards", "vs", "[I", true)
  | 3 => ("LayeredCards$Cards", "ws", "[I", true)
  | _ => ("LayeredCards$Cards", "as", "[I", true)
def ft_K : Nat → FieldType := fun k => match k with
  | 0 => .array .int
  | 1 => .array .int
  | 2 => .array .int
  | 3 => .array .int
  | _ => .array .int
def R_E : String := "LayeredCards$Event"
def F_E : u_T := fun k => match k with
  | 0 => ("LayeredCards$Event", "cards", "LLayeredCards$Cards;", true)
  | 1 => ("LayeredCards$Event", "type", "I", false)
  | 2 => ("LayeredCards$Event", "player", "I", false)
  | 3 => ("LayeredCards$Event", "amount", "I", false)
  | 4 => ("LayeredCards$Event", "used", "[I", true)
  | 5 => ("LayeredCards$Event", "usedCount", "I", false)
  | _ => ("LayeredCards$Event", "usedBits", "I", false)
def ft_E : Nat → FieldType := fun k => match k with
  | 0 => .object "LayeredCards$Cards"
  | 1 => .int
  | 2 => .int
  | 3 => .int
  | 4 => .array .int
  | 5 => .int
  | _ => .int
def R_G : String := "LayeredCards$Game"
def F_G : u_T := fun k => match k with
  | 0 => ("LayeredCards$Game", "cards", "LLayeredCards$Cards;", true)
  | 1 => ("LayeredCards$Game", "lives", "[I", true)
  | 2 => ("LayeredCards$Game", "bases", "[I", true)
  | 3 => ("LayeredCards$Game", "places", "[I", true)
  | 4 => ("LayeredCards$Game", "ages", "[I", true)
  | 5 => ("LayeredCards$Game", "table", "[I", true)
  | 6 => ("LayeredCards$Game", "pile", "[I", true)
  | 7 => ("LayeredCards$Game", "cardCount", "I", false)
  | 8 => ("LayeredCards$Game", "laid", "I", false)
  | 9 => ("LayeredCards$Game", "height", "I", false)
  | 10 => ("LayeredCards$Game", "clock", "I", false)
  | 11 => ("LayeredCards$Game", "active", "I", false)
  | 12 => ("LayeredCards$Game", "turns", "I", false)
  | 13 => ("LayeredCards$Game", "seed", "I", false)
  | _ => ("LayeredCards$Game", "moves", "I", false)
def ft_G : Nat → FieldType := fun k => match k with
  | 0 => .object "LayeredCards$Cards"
  | 1 => .array .int
  | 2 => .array .int
  | 3 => .array .int
  | 4 => .array .int
  | 5 => .array .int
  | 6 => .array .int
  | 7 => .int
  | 8 => .int
  | 9 => .int
  | 10 => .int
  | 11 => .int
  | 12 => .int
  | 13 => .int
  | _ => .int
def R_Y : String := "LayeredCards$Layering"
def F_Y : u_T := fun k => match k with
  | 0 => ("LayeredCards$Layering", "cards", "LLayeredCards$Cards;", true)
  | 1 => ("LayeredCards$Layering", "values", "[I", true)
  | 2 => ("LayeredCards$Layering", "order", "[I", true)
  | 3 => ("LayeredCards$Layering", "usedCount", "I", false)
  | 4 => ("LayeredCards$Layering", "open", "[I", true)
  | 5 => ("LayeredCards$Layering", "openOn", "[I", true)
  | _ => ("LayeredCards$Layering", "openCount", "I", false)
def ft_Y : Nat → FieldType := fun k => match k with
  | 0 => .object "LayeredCards$Cards"
  | 1 => .array .int
  | 2 => .array .int
  | 3 => .int
  | 4 => .array .int
  | 5 => .array .int
  | _ => .int
def R_O : String := "LayeredCards$Log"
def F_O : u_T := fun k => match k with
  | 0 => ("LayeredCards$Log", "things", "[I", true)
  | 1 => ("LayeredCards$Log", "events", "[I", true)
  | 2 => ("LayeredCards$Log", "thingCount", "I", false)
  | _ => ("LayeredCards$Log", "eventCount", "I", false)
def ft_O : Nat → FieldType := fun k => match k with
  | 0 => .array .int
  | 1 => .array .int
  | 2 => .int
  | _ => .int
def R_P : String := "LayeredCards$Past"
def F_P : u_T := fun k => match k with
  | 0 => ("LayeredCards$Past", "moves", "[I", true)
  | 1 => ("LayeredCards$Past", "lives0", "[I", true)
  | 2 => ("LayeredCards$Past", "lives1", "[I", true)
  | 3 => ("LayeredCards$Past", "heights", "[I", true)
  | _ => ("LayeredCards$Past", "piles", "[J", true)
def ft_P : Nat → FieldType := fun k => match k with
  | 0 => .array .int
  | 1 => .array .int
  | 2 => .array .int
  | 3 => .array .int
  | _ => .array .long
def R_R : String := "LayeredCards$Rules"
def F_R : u_T := fun k => match k with
  | 0 => ("LayeredCards$Rules", "cards", "LLayeredCards$Cards;", true)
  | 1 => ("LayeredCards$Rules", "layering", "LLayeredCards$Layering;", true)
  | 2 => ("LayeredCards$Rules", "event", "LLayeredCards$Event;", true)
  | 3 => ("LayeredCards$Rules", "past", "LLayeredCards$Past;", true)
  | 4 => ("LayeredCards$Rules", "end", "I", false)
  | 5 => ("LayeredCards$Rules", "earlier", "I", false)
  | 6 => ("LayeredCards$Rules", "between", "I", false)
  | _ => ("LayeredCards$Rules", "times", "I", false)
def ft_R : Nat → FieldType := fun k => match k with
  | 0 => .object "LayeredCards$Cards"
  | 1 => .object "LayeredCards$Layering"
  | 2 => .object "LayeredCards$Event"
  | 3 => .object "LayeredCards$Past"
  | 4 => .int
  | 5 => .int
  | 6 => .int
  | _ => .int
def R_T : String := "LayeredCards$Tape"
def F_T : u_T := fun k => match k with
  | 0 => ("LayeredCards$Tape", "bytes", "[I", true)
  | 1 => ("LayeredCards$Tape", "length", "I", false)
  | 2 => ("LayeredCards$Tape", "cursor", "I", false)
  | 3 => ("LayeredCards$Tape", "kinds", "[I", true)
  | 4 => ("LayeredCards$Tape", "owners", "[I", true)
  | 5 => ("LayeredCards$Tape", "vws", "[I", true)
  | 6 => ("LayeredCards$Tape", "as", "[I", true)
  | _ => ("LayeredCards$Tape", "lines", "I", false)
def ft_T : Nat → FieldType := fun k => match k with
  | 0 => .array .int
  | 1 => .int
  | 2 => .int
  | 3 => .array .int
  | 4 => .array .int
  | 5 => .array .int
  | 6 => .array .int
  | _ => .int
def R_L : String := "LayeredCards"
def F_L : u_T := fun k => match k with
  | 0 => ("LayeredCards", "cards", "LLayeredCards$Cards;", true)
  | 1 => ("LayeredCards", "game", "LLayeredCards$Game;", true)
  | 2 => ("LayeredCards", "image", "LLayeredCards$Game;", true)
  | 3 => ("LayeredCards", "hasImage", "Z", false)
  | 4 => ("LayeredCards", "thought", "LLayeredCards$Game;", true)
  | 5 => ("LayeredCards", "thoughts", "[LLayeredCards$Game;", true)
  | 6 => ("LayeredCards", "rules", "LLayeredCards$Rules;", true)
  | 7 => ("LayeredCards", "layering", "LLayeredCards$Layering;", true)
  | 8 => ("LayeredCards", "event", "LLayeredCards$Event;", true)
  | 9 => ("LayeredCards", "log", "LLayeredCards$Log;", true)
  | 10 => ("LayeredCards", "unread", "LLayeredCards$Log;", true)
  | 11 => ("LayeredCards", "tape", "LLayeredCards$Tape;", true)
  | 12 => ("LayeredCards", "handles", "[I", true)
  | 13 => ("LayeredCards", "lastEnd", "I", false)
  | 14 => ("LayeredCards", "lastEarlier", "I", false)
  | _ => ("LayeredCards", "lastBetween", "I", false)
def ft_L : Nat → FieldType := fun k => match k with
  | 0 => .object "LayeredCards$Cards"
  | 1 => .object "LayeredCards$Game"
  | 2 => .object "LayeredCards$Game"
  | 3 => .boolean
  | 4 => .object "LayeredCards$Game"
  | 5 => .array (.object "LayeredCards$Game")
  | 6 => .object "LayeredCards$Rules"
  | 7 => .object "LayeredCards$Layering"
  | 8 => .object "LayeredCards$Event"
  | 9 => .object "LayeredCards$Log"
  | 10 => .object "LayeredCards$Log"
  | 11 => .object "LayeredCards$Tape"
  | 12 => .array .int
  | 13 => .int
  | 14 => .int
  | _ => .int
def R_M : String := "LayeredCardsModel"
def F_M : u_T := fun k => match k with
  | 0 => ("LayeredCardsModel", "kind", "[I", true)
  | 1 => ("LayeredCardsModel", "owner", "[I", true)
  | 2 => ("LayeredCardsModel", "first", "[I", true)
  | 3 => ("LayeredCardsModel", "second", "[I", true)
  | 4 => ("LayeredCardsModel", "by", "[I", true)
  | 5 => ("LayeredCardsModel", "cards", "I", false)
  | 6 => ("LayeredCardsModel", "g", "[I", true)
  | 7 => ("LayeredCardsModel", "levels", "[[I", true)
  | 8 => ("LayeredCardsModel", "kept", "[I", true)
  | 9 => ("LayeredCardsModel", "keptCards", "I", false)
  | 10 => ("LayeredCardsModel", "seen", "[[I", true)
  | 11 => ("LayeredCardsModel", "values", "[I", true)
  | 12 => ("LayeredCardsModel", "layers", "[I", true)
  | 13 => ("LayeredCardsModel", "layersMany", "I", false)
  | 14 => ("LayeredCardsModel", "uses", "[I", true)
  | 15 => ("LayeredCardsModel", "usesMany", "I", false)
  | 16 => ("LayeredCardsModel", "type", "I", false)
  | 17 => ("LayeredCardsModel", "player", "I", false)
  | 18 => ("LayeredCardsModel", "amount", "I", false)
  | 19 => ("LayeredCardsModel", "tape", "[I", true)
  | 20 => ("LayeredCardsModel", "tapeMany", "I", false)
  | 21 => ("LayeredCardsModel", "held", "[I", true)
  | 22 => ("LayeredCardsModel", "how", "I", false)
  | 23 => ("LayeredCardsModel", "earlier", "I", false)
  | 24 => ("LayeredCardsModel", "between", "I", false)
  | 25 => ("LayeredCardsModel", "runHow", "I", false)
  | 26 => ("LayeredCardsModel", "runEarlier", "I", false)
  | 27 => ("LayeredCardsModel", "runBetween", "I", false)
  | 28 => ("LayeredCardsModel", "traced", "[I", true)
  | 29 => ("LayeredCardsModel", "tracedMany", "I", false)
  | 30 => ("LayeredCardsModel", "happened", "[I", true)
  | 31 => ("LayeredCardsModel", "happenedMany", "I", false)
  | 32 => ("LayeredCardsModel", "isTraced", "Z", false)
  | 33 => ("LayeredCardsModel", "spot", "I", false)
  | _ => ("LayeredCardsModel", "fault", "I", false)
def ft_M : Nat → FieldType := fun k => match k with
  | 0 => .array .int
  | 1 => .array .int
  | 2 => .array .int
  | 3 => .array .int
  | 4 => .array .int
  | 5 => .int
  | 6 => .array .int
  | 7 => .array (.array .int)
  | 8 => .array .int
  | 9 => .int
  | 10 => .array (.array .int)
  | 11 => .array .int
  | 12 => .array .int
  | 13 => .int
  | 14 => .array .int
  | 15 => .int
  | 16 => .int
  | 17 => .int
  | 18 => .int
  | 19 => .array .int
  | 20 => .int
  | 21 => .array .int
  | 22 => .int
  | 23 => .int
  | 24 => .int
  | 25 => .int
  | 26 => .int
  | 27 => .int
  | 28 => .array .int
  | 29 => .int
  | 30 => .array .int
  | 31 => .int
  | 32 => .boolean
  | 33 => .int
  | _ => .int
def RW : String := "LayeredCardsLaw"
/-- the classes whose objects the worlds hold -/
def cls0 : List vw_C := [(R_K, F_K, 5), (R_E, F_E, 7), (R_G, F_G, 15), (R_Y, F_Y, 7), (R_O, F_O, 4), (R_P, F_P, 5), (R_R, F_R, 8), (R_T, F_T, 8), (R_L, F_L, 16), (R_M, F_M, 35)]
def nfl : List Nat := [5, 7, 15, 7, 4, 5, 8, 8, 16, 35]
def nf (ci : Nat) : Nat := nfl.getD ci 0
/-- what a field holds: 0 an int, 1 a reference, 2 a boolean -/
def fkl : List (List Nat) := [[1, 1, 1, 1, 1], [1, 0, 0, 0, 1, 0, 0], [1, 1, 1, 1, 1, 1, 1, 0, 0, 0, 0, 0, 0, 0, 0], [1, 1, 1, 0, 1, 1, 0], [1, 1, 0, 0], [1, 1, 1, 1, 1], [1, 1, 1, 1, 0, 0, 0, 0], [1, 0, 0, 1, 1, 1, 1, 0], [1, 1, 1, 2, 1, 1, 1, 1, 1, 1, 1, 1, 1, 0, 0, 0], [1, 1, 1, 1, 1, 0, 1, 1, 1, 0, 1, 1, 1, 0, 1, 0, 0, 0, 0, 1, 0, 1, 0, 0, 0, 0, 0, 0, 1, 0, 1, 0, 2, 0, 0]]
def fk (ci j : Nat) : Nat := (fkl.getD ci []).getD j 9
abbrev b_K_init : ByteArray := prog_2_method_1_code
def y_K_init : MethodName := ⟨R_K, "<init>", "()V"⟩
abbrev b_K_write : ByteArray := prog_2_method_2_code
def y_K_write : MethodName := ⟨R_K, "write", "(IIIII)V"⟩
abbrev b_E_init : ByteArray := prog_3_method_1_code
def y_E_init : MethodName := ⟨R_E, "<init>", "(LLayeredCards$Cards;)V"⟩
abbrev b_E_become : ByteArray := prog_3_method_2_code
def y_E_become : MethodName := ⟨R_E, "become", "(III)V"⟩
abbrev b_E_becomeTold : ByteArray := prog_3_method_3_code
def y_E_becomeTold : MethodName := ⟨R_E, "becomeTold", "(I)V"⟩
abbrev b_E_told : ByteArray := prog_3_method_4_code
def y_E_told : MethodName := ⟨R_E, "told", "()I"⟩
abbrev b_E_replaceBy : ByteArray := prog_3_method_5_code
def y_E_replaceBy : MethodName := ⟨R_E, "replaceBy", "(LLayeredCards$Game;)V"⟩
abbrev b_E_fits : ByteArray := prog_3_method_6_code
def y_E_fits : MethodName := ⟨R_E, "fits", "(I)Z"⟩
abbrev b_E_use : ByteArray := prog_3_method_7_code
def y_E_use : MethodName := ⟨R_E, "use", "(I)V"⟩
abbrev b_G_init : ByteArray := prog_4_method_1_code
def y_G_init : MethodName := ⟨R_G, "<init>", "(LLayeredCards$Cards;)V"⟩
abbrev b_G_copyFrom : ByteArray := prog_4_method_2_code
def y_G_copyFrom : MethodName := ⟨R_G, "copyFrom", "(LLayeredCards$Game;)V"⟩
abbrev b_G_has : ByteArray := prog_4_method_3_code
def y_G_has : MethodName := ⟨R_G, "has", "(I)Z"⟩
abbrev b_G_addCard : ByteArray := prog_4_method_4_code
def y_G_addCard : MethodName := ⟨R_G, "addCard", "(IIII)I"⟩
abbrev b_G_moveTo : ByteArray := prog_4_method_5_code
def y_G_moveTo : MethodName := ⟨R_G, "moveTo", "(II)V"⟩
abbrev b_G_playCard : ByteArray := prog_4_method_6_code
def y_G_playCard : MethodName := ⟨R_G, "playCard", "(I)V"⟩
abbrev b_G_layDown : ByteArray := prog_4_method_7_code
def y_G_layDown : MethodName := ⟨R_G, "layDown", "(I)V"⟩
abbrev b_G_takeOff : ByteArray := prog_4_method_8_code
def y_G_takeOff : MethodName := ⟨R_G, "takeOff", "(I)V"⟩
abbrev b_G_push : ByteArray := prog_4_method_9_code
def y_G_push : MethodName := ⟨R_G, "push", "(I)Z"⟩
abbrev b_G_pop : ByteArray := prog_4_method_10_code
def y_G_pop : MethodName := ⟨R_G, "pop", "()I"⟩
abbrev b_G_countIn : ByteArray := prog_4_method_11_code
def y_G_countIn : MethodName := ⟨R_G, "countIn", "(II)I"⟩
abbrev b_G_nthIn : ByteArray := prog_4_method_12_code
def y_G_nthIn : MethodName := ⟨R_G, "nthIn", "(III)I"⟩
abbrev b_G_drawOne : ByteArray := prog_4_method_13_code
def y_G_drawOne : MethodName := ⟨R_G, "drawOne", "(I)V"⟩
abbrev b_G_changeLife : ByteArray := prog_4_method_14_code
def y_G_changeLife : MethodName := ⟨R_G, "changeLife", "(II)V"⟩
abbrev b_G_worthTo : ByteArray := prog_4_method_15_code
def y_G_worthTo : MethodName := ⟨R_G, "worthTo", "(I)I"⟩
abbrev b_G_lostBits : ByteArray := prog_4_method_16_code
def y_G_lostBits : MethodName := ⟨R_G, "lostBits", "()I"⟩
abbrev b_G_isQuiet : ByteArray := prog_4_method_17_code
def y_G_isQuiet : MethodName := ⟨R_G, "isQuiet", "()Z"⟩
abbrev b_Y_init : ByteArray := prog_5_method_1_code
def y_Y_init : MethodName := ⟨R_Y, "<init>", "(LLayeredCards$Cards;)V"⟩
abbrev b_Y_workOut : ByteArray := prog_5_method_2_code
def y_Y_workOut : MethodName := ⟨R_Y, "workOut", "(LLayeredCards$Game;)V"⟩
abbrev b_Y_gather : ByteArray := prog_5_method_3_code
def y_Y_gather : MethodName := ⟨R_Y, "gather", "(LLayeredCards$Game;)V"⟩
abbrev b_Y_countOn : ByteArray := prog_5_method_4_code
def y_Y_countOn : MethodName := ⟨R_Y, "countOn", "(II)V"⟩
abbrev b_Y_takeNext : ByteArray := prog_5_method_5_code
def y_Y_takeNext : MethodName := ⟨R_Y, "takeNext", "()I"⟩
abbrev b_Y_waits : ByteArray := prog_5_method_6_code
def y_Y_waits : MethodName := ⟨R_Y, "waits", "(I)Z"⟩
abbrev b_Y_use : ByteArray := prog_5_method_7_code
def y_Y_use : MethodName := ⟨R_Y, "use", "(I)V"⟩
abbrev b_O_init : ByteArray := prog_6_method_1_code
def y_O_init : MethodName := ⟨R_O, "<init>", "()V"⟩
abbrev b_O_empty : ByteArray := prog_6_method_2_code
def y_O_empty : MethodName := ⟨R_O, "empty", "()V"⟩
abbrev b_O_addThing : ByteArray := prog_6_method_3_code
def y_O_addThing : MethodName := ⟨R_O, "addThing", "(I)V"⟩
abbrev b_O_addEvent : ByteArray := prog_6_method_4_code
def y_O_addEvent : MethodName := ⟨R_O, "addEvent", "(I)V"⟩
abbrev b_P_init : ByteArray := prog_7_method_1_code
def y_P_init : MethodName := ⟨R_P, "<init>", "()V"⟩
abbrev b_P_keep : ByteArray := prog_7_method_2_code
def y_P_keep : MethodName := ⟨R_P, "keep", "(ILLayeredCards$Game;)V"⟩
abbrev b_P_sameAs : ByteArray := prog_7_method_3_code
def y_P_sameAs : MethodName := ⟨R_P, "sameAs", "(I)I"⟩
abbrev b_P_samePiles : ByteArray := prog_7_method_4_code
def y_P_samePiles : MethodName := ⟨R_P, "samePiles", "(II)Z"⟩
abbrev b_R_init : ByteArray := prog_8_method_1_code
def y_R_init : MethodName := ⟨R_R, "<init>", "(LLayeredCards$Cards;)V"⟩
abbrev b_R_runPile : ByteArray := prog_8_method_2_code
def y_R_runPile : MethodName := ⟨R_R, "runPile", "(LLayeredCards$Game;LLayeredCards$Log;)V"⟩
abbrev b_R_hasEnded : ByteArray := prog_8_method_3_code
def y_R_hasEnded : MethodName := ⟨R_R, "hasEnded", "(LLayeredCards$Game;)Z"⟩
abbrev b_R_resolveTop : ByteArray := prog_8_method_4_code
def y_R_resolveTop : MethodName := ⟨R_R, "resolveTop", "(LLayeredCards$Game;LLayeredCards$Log;)V"⟩
abbrev b_R_stopTop : ByteArray := prog_8_method_5_code
def y_R_stopTop : MethodName := ⟨R_R, "stopTop", "(LLayeredCards$Game;)V"⟩
abbrev b_R_clearYoungest : ByteArray := prog_8_method_6_code
def y_R_clearYoungest : MethodName := ⟨R_R, "clearYoungest", "(LLayeredCards$Game;I)V"⟩
abbrev b_R_begin : ByteArray := prog_8_method_7_code
def y_R_begin : MethodName := ⟨R_R, "begin", "(III)V"⟩
abbrev b_R_happen : ByteArray := prog_8_method_8_code
def y_R_happen : MethodName := ⟨R_R, "happen", "(LLayeredCards$Game;LLayeredCards$Log;)V"⟩
abbrev b_R_castShadows : ByteArray := prog_8_method_9_code
def y_R_castShadows : MethodName := ⟨R_R, "castShadows", "(LLayeredCards$Game;)V"⟩
abbrev b_R_takeTurn : ByteArray := prog_8_method_10_code
def y_R_takeTurn : MethodName := ⟨R_R, "takeTurn", "(LLayeredCards$Game;LLayeredCards$Log;)V"⟩
abbrev b_T_init : ByteArray := prog_9_method_1_code
def y_T_init : MethodName := ⟨R_T, "<init>", "()V"⟩
abbrev b_T_append : ByteArray := prog_9_method_2_code
def y_T_append : MethodName := ⟨R_T, "append", "(I)Z"⟩
abbrev b_T_readText : ByteArray := prog_9_method_3_code
def y_T_readText : MethodName := ⟨R_T, "readText", "()I"⟩
abbrev b_T_readLine : ByteArray := prog_9_method_4_code
def y_T_readLine : MethodName := ⟨R_T, "readLine", "()Z"⟩
abbrev b_T_readWord : ByteArray := prog_9_method_5_code
def y_T_readWord : MethodName := ⟨R_T, "readWord", "()I"⟩
abbrev b_T_lettersAlike : ByteArray := prog_9_method_6_code
def y_T_lettersAlike : MethodName := ⟨R_T, "lettersAlike", "(I)I"⟩
abbrev b_T_readDigit : ByteArray := prog_9_method_7_code
def y_T_readDigit : MethodName := ⟨R_T, "readDigit", "(I)I"⟩
abbrev b_T_skip : ByteArray := prog_9_method_8_code
def y_T_skip : MethodName := ⟨R_T, "skip", "(I)Z"⟩
abbrev b_L_init : ByteArray := prog_1_method_1_code
def y_L_init : MethodName := ⟨R_L, "<init>", "()V"⟩
abbrev b_L_card : ByteArray := prog_1_method_2_code
def y_L_card : MethodName := ⟨R_L, "card", "(IIII)I"⟩
abbrev b_L_feed : ByteArray := prog_1_method_3_code
def y_L_feed : MethodName := ⟨R_L, "feed", "(I)I"⟩
abbrev b_L_deck : ByteArray := prog_1_method_4_code
def y_L_deck : MethodName := ⟨R_L, "deck", "()I"⟩
abbrev b_L_deckOnTape : ByteArray := prog_1_method_5_code
def y_L_deckOnTape : MethodName := ⟨R_L, "deckOnTape", "()I"⟩
abbrev b_L_of : ByteArray := prog_1_method_6_code
def y_L_of : MethodName := ⟨R_L, "of", "(II)I"⟩
abbrev b_L_deal : ByteArray := prog_1_method_7_code
def y_L_deal : MethodName := ⟨R_L, "deal", "(I)I"⟩
abbrev b_L_base : ByteArray := prog_1_method_8_code
def y_L_base : MethodName := ⟨R_L, "base", "(II)I"⟩
abbrev b_L_mend : ByteArray := prog_1_method_9_code
def y_L_mend : MethodName := ⟨R_L, "mend", "(II)I"⟩
abbrev b_L_player : ByteArray := prog_1_method_10_code
def y_L_player : MethodName := ⟨R_L, "player", "(II)I"⟩
abbrev b_L_value : ByteArray := prog_1_method_11_code
def y_L_value : MethodName := ⟨R_L, "value", "(I)I"⟩
abbrev b_L_layer : ByteArray := prog_1_method_12_code
def y_L_layer : MethodName := ⟨R_L, "layer", "(I)I"⟩
abbrev b_L_depends : ByteArray := prog_1_method_13_code
def y_L_depends : MethodName := ⟨R_L, "depends", "(II)I"⟩
abbrev b_L_isLayerOnTable : ByteArray := prog_1_method_14_code
def y_L_isLayerOnTable : MethodName := ⟨R_L, "isLayerOnTable", "(I)Z"⟩
abbrev b_L_used : ByteArray := prog_1_method_15_code
def y_L_used : MethodName := ⟨R_L, "used", "(II)I"⟩
abbrev b_L_play : ByteArray := prog_1_method_16_code
def y_L_play : MethodName := ⟨R_L, "play", "(I)I"⟩
abbrev b_L_pile : ByteArray := prog_1_method_17_code
def y_L_pile : MethodName := ⟨R_L, "pile", "(I)I"⟩
abbrev b_L_resolve : ByteArray := prog_1_method_18_code
def y_L_resolve : MethodName := ⟨R_L, "resolve", "()I"⟩
abbrev b_L_run : ByteArray := prog_1_method_19_code
def y_L_run : MethodName := ⟨R_L, "run", "()I"⟩
abbrev b_L_ended : ByteArray := prog_1_method_20_code
def y_L_ended : MethodName := ⟨R_L, "ended", "(I)I"⟩
abbrev b_L_turn : ByteArray := prog_1_method_21_code
def y_L_turn : MethodName := ⟨R_L, "turn", "()I"⟩
abbrev b_L_dry : ByteArray := prog_1_method_22_code
def y_L_dry : MethodName := ⟨R_L, "dry", "(I)I"⟩
abbrev b_L_worth : ByteArray := prog_1_method_23_code
def y_L_worth : MethodName := ⟨R_L, "worth", "(I)I"⟩
abbrev b_L_worthPlayed : ByteArray := prog_1_method_24_code
def y_L_worthPlayed : MethodName := ⟨R_L, "worthPlayed", "(I)I"⟩
abbrev b_L_best : ByteArray := prog_1_method_25_code
def y_L_best : MethodName := ⟨R_L, "best", "(II)I"⟩
abbrev b_L_byTurns : ByteArray := prog_1_method_26_code
def y_L_byTurns : MethodName := ⟨R_L, "byTurns", "(I)I"⟩
abbrev b_L_outcome : ByteArray := prog_1_method_27_code
def y_L_outcome : MethodName := ⟨R_L, "outcome", "([LLayeredCards$Game;LLayeredCards$Rules;LLayeredCards$Log;II)I"⟩
abbrev b_L_matter : ByteArray := prog_1_method_28_code
def y_L_matter : MethodName := ⟨R_L, "matter", "()I"⟩
abbrev b_L_runWithout : ByteArray := prog_1_method_29_code
def y_L_runWithout : MethodName := ⟨R_L, "runWithout", "(I)V"⟩
abbrev b_L_swing : ByteArray := prog_1_method_30_code
def y_L_swing : MethodName := ⟨R_L, "swing", "(I)I"⟩
abbrev b_L_next : ByteArray := prog_1_method_31_code
def y_L_next : MethodName := ⟨R_L, "next", "(I)I"⟩
abbrev b_L_ahead : ByteArray := prog_1_method_32_code
def y_L_ahead : MethodName := ⟨R_L, "ahead", "(II)I"⟩
abbrev b_L_trace : ByteArray := prog_1_method_33_code
def y_L_trace : MethodName := ⟨R_L, "trace", "(II)I"⟩
abbrev b_L_seed : ByteArray := prog_1_method_34_code
def y_L_seed : MethodName := ⟨R_L, "seed", "(I)I"⟩
abbrev b_L_image : ByteArray := prog_1_method_35_code
def y_L_image : MethodName := ⟨R_L, "image", "()I"⟩
abbrev b_L_back : ByteArray := prog_1_method_36_code
def y_L_back : MethodName := ⟨R_L, "back", "()I"⟩
abbrev b_L_hold : ByteArray := prog_1_method_37_code
def y_L_hold : MethodName := ⟨R_L, "hold", "(II)I"⟩
abbrev b_L_tells : ByteArray := prog_1_method_38_code
def y_L_tells : MethodName := ⟨R_L, "tells", "(II)I"⟩
abbrev b_L_count : ByteArray := prog_1_method_39_code
def y_L_count : MethodName := ⟨R_L, "count", "(I)I"⟩
abbrev b_L_at : ByteArray := prog_1_method_40_code
def y_L_at : MethodName := ⟨R_L, "at", "([II)I"⟩
abbrev b_L_put : ByteArray := prog_1_method_41_code
def y_L_put : MethodName := ⟨R_L, "put", "([III)V"⟩
abbrev b_L_copyRow : ByteArray := prog_1_method_42_code
def y_L_copyRow : MethodName := ⟨R_L, "copyRow", "([I[I)V"⟩
abbrev b_L_within : ByteArray := prog_1_method_43_code
def y_L_within : MethodName := ⟨R_L, "within", "(III)I"⟩
abbrev b_L_isPlayer : ByteArray := prog_1_method_44_code
def y_L_isPlayer : MethodName := ⟨R_L, "isPlayer", "(I)Z"⟩
abbrev b_L_isPair : ByteArray := prog_1_method_45_code
def y_L_isPair : MethodName := ⟨R_L, "isPair", "(I)Z"⟩
abbrev b_L_familyOf : ByteArray := prog_1_method_46_code
def y_L_familyOf : MethodName := ⟨R_L, "familyOf", "(I)I"⟩
abbrev b_L_looksAtOther : ByteArray := prog_1_method_47_code
def y_L_looksAtOther : MethodName := ⟨R_L, "looksAtOther", "(I)Z"⟩
abbrev b_L_layered : ByteArray := prog_1_method_48_code
def y_L_layered : MethodName := ⟨R_L, "layered", "(IIII)I"⟩
abbrev b_L_replacedAmount : ByteArray := prog_1_method_49_code
def y_L_replacedAmount : MethodName := ⟨R_L, "replacedAmount", "(III)I"⟩
abbrev b_L_codeOf : ByteArray := prog_1_method_50_code
def y_L_codeOf : MethodName := ⟨R_L, "codeOf", "(III)I"⟩
abbrev b_L_seedAfter : ByteArray := prog_1_method_51_code
def y_L_seedAfter : MethodName := ⟨R_L, "seedAfter", "(I)I"⟩
abbrev b_L_drawnBelow : ByteArray := prog_1_method_52_code
def y_L_drawnBelow : MethodName := ⟨R_L, "drawnBelow", "(II)I"⟩
abbrev b_M_init : ByteArray := prog_11_method_1_code
def y_M_init : MethodName := ⟨R_M, "<init>", "()V"⟩
abbrev b_M_in : ByteArray := prog_11_method_2_code
def y_M_in : MethodName := ⟨R_M, "in", "(III)Z"⟩
abbrev b_M_held : ByteArray := prog_11_method_3_code
def y_M_held : MethodName := ⟨R_M, "held", "(III)I"⟩
abbrev b_M_isCard : ByteArray := prog_11_method_4_code
def y_M_isCard : MethodName := ⟨R_M, "isCard", "(I)Z"⟩
abbrev b_M_isAt : ByteArray := prog_11_method_5_code
def y_M_isAt : MethodName := ⟨R_M, "isAt", "(II)Z"⟩
abbrev b_M_copy : ByteArray := prog_11_method_6_code
def y_M_copy : MethodName := ⟨R_M, "copy", "([I[I)V"⟩
abbrev b_M_add : ByteArray := prog_11_method_7_code
def y_M_add : MethodName := ⟨R_M, "add", "(IIIII)I"⟩
abbrev b_M_card : ByteArray := prog_11_method_8_code
def y_M_card : MethodName := ⟨R_M, "card", "(IIII)I"⟩
abbrev b_M_feed : ByteArray := prog_11_method_9_code
def y_M_feed : MethodName := ⟨R_M, "feed", "(I)I"⟩
abbrev b_M_wordOf : ByteArray := prog_11_method_10_code
def y_M_wordOf : MethodName := ⟨R_M, "wordOf", "(I)Ljava/lang/String;"⟩
abbrev b_M_sees : ByteArray := prog_11_method_11_code
def y_M_sees : MethodName := ⟨R_M, "sees", "(II)Z"⟩
abbrev b_M_must : ByteArray := prog_11_method_12_code
def y_M_must : MethodName := ⟨R_M, "must", "(II)I"⟩
abbrev b_M_goes : ByteArray := prog_11_method_13_code
def y_M_goes : MethodName := ⟨R_M, "goes", "(Ljava/lang/String;)I"⟩
abbrev b_M_wordHere : ByteArray := prog_11_method_14_code
def y_M_wordHere : MethodName := ⟨R_M, "wordHere", "()I"⟩
abbrev b_M_digit : ByteArray := prog_11_method_15_code
def y_M_digit : MethodName := ⟨R_M, "digit", "(I)I"⟩
abbrev b_M_line : ByteArray := prog_11_method_16_code
def y_M_line : MethodName := ⟨R_M, "line", "(Z)V"⟩
abbrev b_M_lines : ByteArray := prog_11_method_17_code
def y_M_lines : MethodName := ⟨R_M, "lines", "(Z)I"⟩
abbrev b_M_deck : ByteArray := prog_11_method_18_code
def y_M_deck : MethodName := ⟨R_M, "deck", "()I"⟩
abbrev b_M_of : ByteArray := prog_11_method_19_code
def y_M_of : MethodName := ⟨R_M, "of", "(II)I"⟩
abbrev b_M_deal : ByteArray := prog_11_method_20_code
def y_M_deal : MethodName := ⟨R_M, "deal", "(I)I"⟩
abbrev b_M_base : ByteArray := prog_11_method_21_code
def y_M_base : MethodName := ⟨R_M, "base", "(II)I"⟩
abbrev b_M_mend : ByteArray := prog_11_method_22_code
def y_M_mend : MethodName := ⟨R_M, "mend", "(II)I"⟩
abbrev b_M_manyAt : ByteArray := prog_11_method_23_code
def y_M_manyAt : MethodName := ⟨R_M, "manyAt", "(II)I"⟩
abbrev b_M_player : ByteArray := prog_11_method_24_code
def y_M_player : MethodName := ⟨R_M, "player", "(II)I"⟩
abbrev b_M_isLayer : ByteArray := prog_11_method_25_code
def y_M_isLayer : MethodName := ⟨R_M, "isLayer", "(I)Z"⟩
abbrev b_M_hangs : ByteArray := prog_11_method_26_code
def y_M_hangs : MethodName := ⟨R_M, "hangs", "(II)Z"⟩
abbrev b_M_isUsed : ByteArray := prog_11_method_27_code
def y_M_isUsed : MethodName := ⟨R_M, "isUsed", "(I)Z"⟩
abbrev b_M_isFree : ByteArray := prog_11_method_28_code
def y_M_isFree : MethodName := ⟨R_M, "isFree", "(I)Z"⟩
abbrev b_M_nextLayer : ByteArray := prog_11_method_29_code
def y_M_nextLayer : MethodName := ⟨R_M, "nextLayer", "(Z)I"⟩
abbrev b_M_use : ByteArray := prog_11_method_30_code
def y_M_use : MethodName := ⟨R_M, "use", "(I)V"⟩
abbrev b_M_layered : ByteArray := prog_11_method_31_code
def y_M_layered : MethodName := ⟨R_M, "layered", "()V"⟩
abbrev b_M_valueNow : ByteArray := prog_11_method_32_code
def y_M_valueNow : MethodName := ⟨R_M, "valueNow", "(I)I"⟩
abbrev b_M_value : ByteArray := prog_11_method_33_code
def y_M_value : MethodName := ⟨R_M, "value", "(I)I"⟩
abbrev b_M_layer : ByteArray := prog_11_method_34_code
def y_M_layer : MethodName := ⟨R_M, "layer", "(I)I"⟩
abbrev b_M_depends : ByteArray := prog_11_method_35_code
def y_M_depends : MethodName := ⟨R_M, "depends", "(II)I"⟩
abbrev b_M_fits : ByteArray := prog_11_method_36_code
def y_M_fits : MethodName := ⟨R_M, "fits", "(I)Z"⟩
abbrev b_M_wasUsed : ByteArray := prog_11_method_37_code
def y_M_wasUsed : MethodName := ⟨R_M, "wasUsed", "(I)Z"⟩
abbrev b_M_nextReplacer : ByteArray := prog_11_method_38_code
def y_M_nextReplacer : MethodName := ⟨R_M, "nextReplacer", "()I"⟩
abbrev b_M_replaced : ByteArray := prog_11_method_39_code
def y_M_replaced : MethodName := ⟨R_M, "replaced", "(III)V"⟩
abbrev b_M_draw : ByteArray := prog_11_method_40_code
def y_M_draw : MethodName := ⟨R_M, "draw", "(I)I"⟩
abbrev b_M_drawOne : ByteArray := prog_11_method_41_code
def y_M_drawOne : MethodName := ⟨R_M, "drawOne", "()V"⟩
abbrev b_M_push : ByteArray := prog_11_method_42_code
def y_M_push : MethodName := ⟨R_M, "push", "(I)V"⟩
abbrev b_M_echoes : ByteArray := prog_11_method_43_code
def y_M_echoes : MethodName := ⟨R_M, "echoes", "()V"⟩
abbrev b_M_event : ByteArray := prog_11_method_44_code
def y_M_event : MethodName := ⟨R_M, "event", "(III)V"⟩
abbrev b_M_used : ByteArray := prog_11_method_45_code
def y_M_used : MethodName := ⟨R_M, "used", "(II)I"⟩
abbrev b_M_play : ByteArray := prog_11_method_46_code
def y_M_play : MethodName := ⟨R_M, "play", "(I)I"⟩
abbrev b_M_playIt : ByteArray := prog_11_method_47_code
def y_M_playIt : MethodName := ⟨R_M, "playIt", "(I)V"⟩
abbrev b_M_pile : ByteArray := prog_11_method_48_code
def y_M_pile : MethodName := ⟨R_M, "pile", "(I)I"⟩
abbrev b_M_stop : ByteArray := prog_11_method_49_code
def y_M_stop : MethodName := ⟨R_M, "stop", "()V"⟩
abbrev b_M_clear : ByteArray := prog_11_method_50_code
def y_M_clear : MethodName := ⟨R_M, "clear", "(I)V"⟩
abbrev b_M_answer : ByteArray := prog_11_method_51_code
def y_M_answer : MethodName := ⟨R_M, "answer", "(I)V"⟩
abbrev b_M_resolveTop : ByteArray := prog_11_method_52_code
def y_M_resolveTop : MethodName := ⟨R_M, "resolveTop", "()V"⟩
abbrev b_M_traces : ByteArray := prog_11_method_53_code
def y_M_traces : MethodName := ⟨R_M, "traces", "()V"⟩
abbrev b_M_resolve : ByteArray := prog_11_method_54_code
def y_M_resolve : MethodName := ⟨R_M, "resolve", "()I"⟩
abbrev b_M_isLost : ByteArray := prog_11_method_55_code
def y_M_isLost : MethodName := ⟨R_M, "isLost", "()Z"⟩
abbrev b_M_see : ByteArray := prog_11_method_56_code
def y_M_see : MethodName := ⟨R_M, "see", "(I)V"⟩
abbrev b_M_sameAs : ByteArray := prog_11_method_57_code
def y_M_sameAs : MethodName := ⟨R_M, "sameAs", "(I)I"⟩
abbrev b_M_runIt : ByteArray := prog_11_method_58_code
def y_M_runIt : MethodName := ⟨R_M, "runIt", "()I"⟩
abbrev b_M_run : ByteArray := prog_11_method_59_code
def y_M_run : MethodName := ⟨R_M, "run", "()I"⟩
abbrev b_M_ended : ByteArray := prog_11_method_60_code
def y_M_ended : MethodName := ⟨R_M, "ended", "(I)I"⟩
abbrev b_M_greatestIn : ByteArray := prog_11_method_61_code
def y_M_greatestIn : MethodName := ⟨R_M, "greatestIn", "(I)I"⟩
abbrev b_M_turn : ByteArray := prog_11_method_62_code
def y_M_turn : MethodName := ⟨R_M, "turn", "()I"⟩
abbrev b_M_turnIt : ByteArray := prog_11_method_63_code
def y_M_turnIt : MethodName := ⟨R_M, "turnIt", "()V"⟩
abbrev b_M_dry : ByteArray := prog_11_method_64_code
def y_M_dry : MethodName := ⟨R_M, "dry", "(I)I"⟩
abbrev b_M_worthOf : ByteArray := prog_11_method_65_code
def y_M_worthOf : MethodName := ⟨R_M, "worthOf", "(I)I"⟩
abbrev b_M_worthIf : ByteArray := prog_11_method_66_code
def y_M_worthIf : MethodName := ⟨R_M, "worthIf", "(II)I"⟩
abbrev b_M_worth : ByteArray := prog_11_method_67_code
def y_M_worth : MethodName := ⟨R_M, "worth", "(I)I"⟩
abbrev b_M_best : ByteArray := prog_11_method_68_code
def y_M_best : MethodName := ⟨R_M, "best", "(II)I"⟩
abbrev b_M_reach : ByteArray := prog_11_method_69_code
def y_M_reach : MethodName := ⟨R_M, "reach", "(IIII)I"⟩
abbrev b_M_matter : ByteArray := prog_11_method_70_code
def y_M_matter : MethodName := ⟨R_M, "matter", "()I"⟩
abbrev b_M_swing : ByteArray := prog_11_method_71_code
def y_M_swing : MethodName := ⟨R_M, "swing", "(I)I"⟩
abbrev b_M_next : ByteArray := prog_11_method_72_code
def y_M_next : MethodName := ⟨R_M, "next", "(I)I"⟩
abbrev b_M_ahead : ByteArray := prog_11_method_73_code
def y_M_ahead : MethodName := ⟨R_M, "ahead", "(II)I"⟩
abbrev b_M_trace : ByteArray := prog_11_method_74_code
def y_M_trace : MethodName := ⟨R_M, "trace", "(II)I"⟩
abbrev b_M_byTurns : ByteArray := prog_11_method_75_code
def y_M_byTurns : MethodName := ⟨R_M, "byTurns", "(I)I"⟩
abbrev b_M_seed : ByteArray := prog_11_method_76_code
def y_M_seed : MethodName := ⟨R_M, "seed", "(I)I"⟩
abbrev b_M_image : ByteArray := prog_11_method_77_code
def y_M_image : MethodName := ⟨R_M, "image", "()I"⟩
abbrev b_M_back : ByteArray := prog_11_method_78_code
def y_M_back : MethodName := ⟨R_M, "back", "()I"⟩
abbrev b_M_hold : ByteArray := prog_11_method_79_code
def y_M_hold : MethodName := ⟨R_M, "hold", "(II)I"⟩
abbrev b_M_familyOf : ByteArray := prog_11_method_80_code
def y_M_familyOf : MethodName := ⟨R_M, "familyOf", "(I)I"⟩
abbrev b_M_toldBy : ByteArray := prog_11_method_81_code
def y_M_toldBy : MethodName := ⟨R_M, "toldBy", "(I)I"⟩
abbrev b_M_tells : ByteArray := prog_11_method_82_code
def y_M_tells : MethodName := ⟨R_M, "tells", "(II)I"⟩
abbrev b_M_count : ByteArray := prog_11_method_83_code
def y_M_count : MethodName := ⟨R_M, "count", "(I)I"⟩
/-- the words that every method of ours has -/
def tbl : List Cond := lw_tbl.filter goodWord
theorem tbl_in {w : Cond} (h : w ∈ lw_tbl) (hg : goodWord w = true) : w ∈ tbl := List.mem_filter.mpr ⟨h, hg⟩
def isNest : Cond → Bool
  | .fieldLinkNest .. => true
  | .methodLinkNest .. => true
  | _ => false
def nst : List Cond := lw_tbl.filter isNest
theorem nst_in {w : Cond} (h : w ∈ lw_tbl) (hg : isNest w = true) : w ∈ nst := List.mem_filter.mpr ⟨h, hg⟩
/-- the word of a field's entry in a pool -/
def FW (own : String) (idx ci j : Nat) : Prop := ∃ q, cls0[ci]? = some q ∧ (Cond.fieldLink own idx q.1 (q.2.1 j).2.1 (q.2.1 j).2.2.1 ∈ tbl ∨ ∃ host, Cond.fieldLinkNest own idx q.1 (q.2.1 j).2.1 (q.2.1 j).2.2.1 host ∈ nst)
/-- the words of a method that is called: n parameters, static or not -/
def MX (y : MethodName) (cc : ByteArray) (nL : Nat) (ret : Option FieldType) (n : Nat) (stat : Bool) : Prop :=
  Cond.code y cc nL ret ∈ tbl ∧ Cond.initialized y.cls ∈ tbl ∧ plainName y.cls = true ∧ (y.cls ≠ "java/lang/invoke/MethodHandle" ∧ y.cls ≠ "java/lang/invoke/VarHandle" ∧ (parseMethodDescriptor y.desc).map (fun d => d.parameters.length) = some n) ∧ (if stat = true then Cond.static y ∈ tbl else Cond.instanceMethod y ∈ tbl ∧ Cond.selects y.cls y y ∈ tbl)
def MW (own : String) (idx : Nat) (y : MethodName) : Prop := Cond.methodLink own idx y ∈ tbl ∨ ∃ host, Cond.methodLinkNest own idx y host ∈ nst
end
section
theorem n_K : ∀ a, a < 5 → ∀ b, b < 5 → a ≠ b → (F_K a).2.1 ≠ (F_K b).2.1 := by decide +kernel
theorem ft_K_ok : ∀ k, k < 5 → parseFieldDescriptor (F_K k).2.2.1 = some (ft_K k) := by decide +kernel
theorem i_K : ∀ w ∈ u_ws R_K F_K 5, w ∈ tbl := by
  intro w hw
  obtain ⟨k, hk, rfl⟩ := List.mem_map.mp hw
  have hk := List.mem_range.mp hk
  match k, hk with
  | 0, _ => exact tbl_in (List.mem_of_getElem? (i := 155) (by decide +kernel)) rfl
  | 1, _ => exact tbl_in (List.mem_of_getElem? (i := 157) (by decide +kernel)) rfl
  | 2, _ => exact tbl_in (List.mem_of_getElem? (i := 159) (by decide +kernel)) rfl
  | 3, _ => exact tbl_in (List.mem_of_getElem? (i := 161) (by decide +kernel)) rfl
  | 4, _ => exact tbl_in (List.mem_of_getElem? (i := 163) (by decide +kernel)) rfl
  | k + 5, h => exact absurd h (by omega)
theorem n_E : ∀ a, a < 7 → ∀ b, b < 7 → a ≠ b → (F_E a).2.1 ≠ (F_E b).2.1 := by decide +kernel
theorem ft_E_ok : ∀ k, k < 7 → parseFieldDescriptor (F_E k).2.2.1 = some (ft_E k) := by decide +kernel
theorem i_E : ∀ w ∈ u_ws R_E F_E 7, w ∈ tbl := by
  intro w hw
  obtain ⟨k, hk, rfl⟩ := List.mem_map.mp hw
  have hk := List.mem_range.mp hk
  match k, hk with
  | 0, _ => exact tbl_in (List.mem_of_getElem? (i := 325) (by decide +kernel)) rfl
  | 1, _ => exact tbl_in (List.mem_of_getElem? (i := 327) (by decide +kernel)) rfl
  | 2, _ => exact tbl_in (List.mem_of_getElem? (i := 329) (by decide +kernel)) rfl
  | 3, _ => exact tbl_in (List.mem_of_getElem? (i := 331) (by decide +kernel)) rfl
  | 4, _ => exact tbl_in (List.mem_of_getElem? (i := 333) (by decide +kernel)) rfl
  | 5, _ => exact tbl_in (List.mem_of_getElem? (i := 335) (by decide +kernel)) rfl
  | 6, _ => exact tbl_in (List.mem_of_getElem? (i := 337) (by decide +kernel)) rfl
  | k + 7, h => exact absurd h (by omega)
theorem n_G : ∀ a, a < 15 → ∀ b, b < 15 → a ≠ b → (F_G a).2.1 ≠ (F_G b).2.1 := by decide +kernel
theorem ft_G_ok : ∀ k, k < 15 → parseFieldDescriptor (F_G k).2.2.1 = some (ft_G k) := by decide +kernel
theorem i_G : ∀ w ∈ u_ws R_G F_G 15, w ∈ tbl := by
  intro w hw
  obtain ⟨k, hk, rfl⟩ := List.mem_map.mp hw
  have hk := List.mem_range.mp hk
  match k, hk with
  | 0, _ => exact tbl_in (List.mem_of_getElem? (i := 214) (by decide +kernel)) rfl
  | 1, _ => exact tbl_in (List.mem_of_getElem? (i := 216) (by decide +kernel)) rfl
  | 2, _ => exact tbl_in (List.mem_of_getElem? (i := 218) (by decide +kernel)) rfl
  | 3, _ => exact tbl_in (List.mem_of_getElem? (i := 220) (by decide +kernel)) rfl
  | 4, _ => exact tbl_in (List.mem_of_getElem? (i := 222) (by decide +kernel)) rfl
  | 5, _ => exact tbl_in (List.mem_of_getElem? (i := 224) (by decide +kernel)) rfl
  | 6, _ => exact tbl_in (List.mem_of_getElem? (i := 226) (by decide +kernel)) rfl
  | 7, _ => exact tbl_in (List.mem_of_getElem? (i := 228) (by decide +kernel)) rfl
  | 8, _ => exact tbl_in (List.mem_of_getElem? (i := 230) (by decide +kernel)) rfl
  | 9, _ => exact tbl_in (List.mem_of_getElem? (i := 232) (by decide +kernel)) rfl
  | 10, _ => exact tbl_in (List.mem_of_getElem? (i := 234) (by decide +kernel)) rfl
  | 11, _ => exact tbl_in (List.mem_of_getElem? (i := 236) (by decide +kernel)) rfl
  | 12, _ => exact tbl_in (List.mem_of_getElem? (i := 238) (by decide +kernel)) rfl
  | 13, _ => exact tbl_in (List.mem_of_getElem? (i := 240) (by decide +kernel)) rfl
  | 14, _ => exact tbl_in (List.mem_of_getElem? (i := 242) (by decide +kernel)) rfl
  | k + 15, h => exact absurd h (by omega)
theorem n_Y : ∀ a, a < 7 → ∀ b, b < 7 → a ≠ b → (F_Y a).2.1 ≠ (F_Y b).2.1 := by decide +kernel
theorem ft_Y_ok : ∀ k, k < 7 → parseFieldDescriptor (F_Y k).2.2.1 = some (ft_Y k) := by decide +kernel
theorem i_Y : ∀ w ∈ u_ws R_Y F_Y 7, w ∈ tbl := by
  intro w hw
  obtain ⟨k, hk, rfl⟩ := List.mem_map.mp hw
  have hk := List.mem_range.mp hk
  match k, hk with
  | 0, _ => exact tbl_in (List.mem_of_getElem? (i := 292) (by decide +kernel)) rfl
  | 1, _ => exact tbl_in (List.mem_of_getElem? (i := 294) (by decide +kernel)) rfl
  | 2, _ => exact tbl_in (List.mem_of_getElem? (i := 296) (by decide +kernel)) rfl
  | 3, _ => exact tbl_in (List.mem_of_getElem? (i := 298) (by decide +kernel)) rfl
  | 4, _ => exact tbl_in (List.mem_of_getElem? (i := 300) (by decide +kernel)) rfl
  | 5, _ => exact tbl_in (List.mem_of_getElem? (i := 302) (by decide +kernel)) rfl
  | 6, _ => exact tbl_in (List.mem_of_getElem? (i := 304) (by decide +kernel)) rfl
  | k + 7, h => exact absurd h (by omega)
theorem n_O : ∀ a, a < 4 → ∀ b, b < 4 → a ≠ b → (F_O a).2.1 ≠ (F_O b).2.1 := by decide +kernel
theorem ft_O_ok : ∀ k, k < 4 → parseFieldDescriptor (F_O k).2.2.1 = some (ft_O k) := by decide +kernel
theorem i_O : ∀ w ∈ u_ws R_O F_O 4, w ∈ tbl := by
  intro w hw
  obtain ⟨k, hk, rfl⟩ := List.mem_map.mp hw
  have hk := List.mem_range.mp hk
  match k, hk with
  | 0, _ => exact tbl_in (List.mem_of_getElem? (i := 387) (by decide +kernel)) rfl
  | 1, _ => exact tbl_in (List.mem_of_getElem? (i := 389) (by decide +kernel)) rfl
  | 2, _ => exact tbl_in (List.mem_of_getElem? (i := 391) (by decide +kernel)) rfl
  | 3, _ => exact tbl_in (List.mem_of_getElem? (i := 393) (by decide +kernel)) rfl
  | k + 4, h => exact absurd h (by omega)
theorem n_P : ∀ a, a < 5 → ∀ b, b < 5 → a ≠ b → (F_P a).2.1 ≠ (F_P b).2.1 := by decide +kernel
theorem ft_P_ok : ∀ k, k < 5 → parseFieldDescriptor (F_P k).2.2.1 = some (ft_P k) := by decide +kernel
theorem i_P : ∀ w ∈ u_ws R_P F_P 5, w ∈ tbl := by
  intro w hw
  obtain ⟨k, hk, rfl⟩ := List.mem_map.mp hw
  have hk := List.mem_range.mp hk
  match k, hk with
  | 0, _ => exact tbl_in (List.mem_of_getElem? (i := 263) (by decide +kernel)) rfl
  | 1, _ => exact tbl_in (List.mem_of_getElem? (i := 265) (by decide +kernel)) rfl
  | 2, _ => exact tbl_in (List.mem_of_getElem? (i := 267) (by decide +kernel)) rfl
  | 3, _ => exact tbl_in (List.mem_of_getElem? (i := 269) (by decide +kernel)) rfl
  | 4, _ => exact tbl_in (List.mem_of_getElem? (i := 271) (by decide +kernel)) rfl
  | k + 5, h => exact absurd h (by omega)
theorem n_R : ∀ a, a < 8 → ∀ b, b < 8 → a ≠ b → (F_R a).2.1 ≠ (F_R b).2.1 := by decide +kernel
theorem ft_R_ok : ∀ k, k < 8 → parseFieldDescriptor (F_R k).2.2.1 = some (ft_R k) := by decide +kernel
theorem i_R : ∀ w ∈ u_ws R_R F_R 8, w ∈ tbl := by
  intro w hw
  obtain ⟨k, hk, rfl⟩ := List.mem_map.mp hw
  have hk := List.mem_range.mp hk
  match k, hk with
  | 0, _ => exact tbl_in (List.mem_of_getElem? (i := 352) (by decide +kernel)) rfl
  | 1, _ => exact tbl_in (List.mem_of_getElem? (i := 354) (by decide +kernel)) rfl
  | 2, _ => exact tbl_in (List.mem_of_getElem? (i := 356) (by decide +kernel)) rfl
  | 3, _ => exact tbl_in (List.mem_of_getElem? (i := 358) (by decide +kernel)) rfl
  | 4, _ => exact tbl_in (List.mem_of_getElem? (i := 360) (by decide +kernel)) rfl
  | 5, _ => exact tbl_in (List.mem_of_getElem? (i := 362) (by decide +kernel)) rfl
  | 6, _ => exact tbl_in (List.mem_of_getElem? (i := 364) (by decide +kernel)) rfl
  | 7, _ => exact tbl_in (List.mem_of_getElem? (i := 366) (by decide +kernel)) rfl
  | k + 8, h => exact absurd h (by omega)
theorem n_T : ∀ a, a < 8 → ∀ b, b < 8 → a ≠ b → (F_T a).2.1 ≠ (F_T b).2.1 := by decide +kernel
theorem ft_T_ok : ∀ k, k < 8 → parseFieldDescriptor (F_T k).2.2.1 = some (ft_T k) := by decide +kernel
theorem i_T : ∀ w ∈ u_ws R_T F_T 8, w ∈ tbl := by
  intro w hw
  obtain ⟨k, hk, rfl⟩ := List.mem_map.mp hw
  have hk := List.mem_range.mp hk
  match k, hk with
  | 0, _ => exact tbl_in (List.mem_of_getElem? (i := 416) (by decide +kernel)) rfl
  | 1, _ => exact tbl_in (List.mem_of_getElem? (i := 418) (by decide +kernel)) rfl
  | 2, _ => exact tbl_in (List.mem_of_getElem? (i := 420) (by decide +kernel)) rfl
  | 3, _ => exact tbl_in (List.mem_of_getElem? (i := 422) (by decide +kernel)) rfl
  | 4, _ => exact tbl_in (List.mem_of_getElem? (i := 424) (by decide +kernel)) rfl
  | 5, _ => exact tbl_in (List.mem_of_getElem? (i := 426) (by decide +kernel)) rfl
  | 6, _ => exact tbl_in (List.mem_of_getElem? (i := 428) (by decide +kernel)) rfl
  | 7, _ => exact tbl_in (List.mem_of_getElem? (i := 430) (by decide +kernel)) rfl
  | k + 8, h => exact absurd h (by omega)
theorem n_L : ∀ a, a < 16 → ∀ b, b < 16 → a ≠ b → (F_L a).2.1 ≠ (F_L b).2.1 := by decide +kernel
theorem ft_L_ok : ∀ k, k < 16 → parseFieldDescriptor (F_L k).2.2.1 = some (ft_L k) := by decide +kernel
theorem i_L : ∀ w ∈ u_ws R_L F_L 16, w ∈ tbl := by
  intro w hw
  obtain ⟨k, hk, rfl⟩ := List.mem_map.mp hw
  have hk := List.mem_range.mp hk
  match k, hk with
  | 0, _ => exact tbl_in (List.mem_of_getElem? (i := 449) (by decide +kernel)) rfl
  | 1, _ => exact tbl_in (List.mem_of_getElem? (i := 451) (by decide +kernel)) rfl
  | 2, _ => exact tbl_in (List.mem_of_getElem? (i := 453) (by decide +kernel)) rfl
  | 3, _ => exact tbl_in (List.mem_of_getElem? (i := 455) (by decide +kernel)) rfl
  | 4, _ => exact tbl_in (List.mem_of_getElem? (i := 457) (by decide +kernel)) rfl
  | 5, _ => exact tbl_in (List.mem_of_getElem? (i := 459) (by decide +kernel)) rfl
  | 6, _ => exact tbl_in (List.mem_of_getElem? (i := 461) (by decide +kernel)) rfl
  | 7, _ => exact tbl_in (List.mem_of_getElem? (i := 463) (by decide +kernel)) rfl
  | 8, _ => exact tbl_in (List.mem_of_getElem? (i := 465) (by decide +kernel)) rfl
  | 9, _ => exact tbl_in (List.mem_of_getElem? (i := 467) (by decide +kernel)) rfl
  | 10, _ => exact tbl_in (List.mem_of_getElem? (i := 469) (by decide +kernel)) rfl
  | 11, _ => exact tbl_in (List.mem_of_getElem? (i := 471) (by decide +kernel)) rfl
  | 12, _ => exact tbl_in (List.mem_of_getElem? (i := 473) (by decide +kernel)) rfl
  | 13, _ => exact tbl_in (List.mem_of_getElem? (i := 475) (by decide +kernel)) rfl
  | 14, _ => exact tbl_in (List.mem_of_getElem? (i := 477) (by decide +kernel)) rfl
  | 15, _ => exact tbl_in (List.mem_of_getElem? (i := 479) (by decide +kernel)) rfl
  | k + 16, h => exact absurd h (by omega)
theorem n_M : ∀ a, a < 35 → ∀ b, b < 35 → a ≠ b → (F_M a).2.1 ≠ (F_M b).2.1 := by decide +kernel
theorem ft_M_ok : ∀ k, k < 35 → parseFieldDescriptor (F_M k).2.2.1 = some (ft_M k) := by decide +kernel
theorem i_M : ∀ w ∈ u_ws R_M F_M 35, w ∈ tbl := by
  intro w hw
  obtain ⟨k, hk, rfl⟩ := List.mem_map.mp hw
  have hk := List.mem_range.mp hk
  match k, hk with
  | 0, _ => exact tbl_in (List.mem_of_getElem? (i := 1023) (by decide +kernel)) rfl
  | 1, _ => exact tbl_in (List.mem_of_getElem? (i := 1025) (by decide +kernel)) rfl
  | 2, _ => exact tbl_in (List.mem_of_getElem? (i := 1027) (by decide +kernel)) rfl
  | 3, _ => exact tbl_in (List.mem_of_getElem? (i := 1029) (by decide +kernel)) rfl
  | 4, _ => exact tbl_in (List.mem_of_getElem? (i := 1031) (by decide +kernel)) rfl
  | 5, _ => exact tbl_in (List.mem_of_getElem? (i := 1033) (by decide +kernel)) rfl
  | 6, _ => exact tbl_in (List.mem_of_getElem? (i := 1035) (by decide +kernel)) rfl
  | 7, _ => exact tbl_in (List.mem_of_getElem? (i := 1037) (by decide +kernel)) rfl
  | 8, _ => exact tbl_in (List.mem_of_getElem? (i := 1039) (by decide +kernel)) rfl
  | 9, _ => exact tbl_in (List.mem_of_getElem? (i := 1041) (by decide +kernel)) rfl
  | 10, _ => exact tbl_in (List.mem_of_getElem? (i := 1043) (by decide +kernel)) rfl
  | 11, _ => exact tbl_in (List.mem_of_getElem? (i := 1045) (by decide +kernel)) rfl
  | 12, _ => exact tbl_in (List.mem_of_getElem? (i := 1047) (by decide +kernel)) rfl
  | 13, _ => exact tbl_in (List.mem_of_getElem? (i := 1049) (by decide +kernel)) rfl
  | 14, _ => exact tbl_in (List.mem_of_getElem? (i := 1051) (by decide +kernel)) rfl
  | 15, _ => exact tbl_in (List.mem_of_getElem? (i := 1053) (by decide +kernel)) rfl
  | 16, _ => exact tbl_in (List.mem_of_getElem? (i := 1055) (by decide +kernel)) rfl
  | 17, _ => exact tbl_in (List.mem_of_getElem? (i := 1057) (by decide +kernel)) rfl
  | 18, _ => exact tbl_in (List.mem_of_getElem? (i := 1059) (by decide +kernel)) rfl
  | 19, _ => exact tbl_in (List.mem_of_getElem? (i := 1061) (by decide +kernel)) rfl
  | 20, _ => exact tbl_in (List.mem_of_getElem? (i := 1063) (by decide +kernel)) rfl
  | 21, _ => exact tbl_in (List.mem_of_getElem? (i := 1065) (by decide +kernel)) rfl
  | 22, _ => exact tbl_in (List.mem_of_getElem? (i := 1067) (by decide +kernel)) rfl
  | 23, _ => exact tbl_in (List.mem_of_getElem? (i := 1069) (by decide +kernel)) rfl
  | 24, _ => exact tbl_in (List.mem_of_getElem? (i := 1071) (by decide +kernel)) rfl
  | 25, _ => exact tbl_in (List.mem_of_getElem? (i := 1073) (by decide +kernel)) rfl
  | 26, _ => exact tbl_in (List.mem_of_getElem? (i := 1075) (by decide +kernel)) rfl
  | 27, _ => exact tbl_in (List.mem_of_getElem? (i := 1077) (by decide +kernel)) rfl
  | 28, _ => exact tbl_in (List.mem_of_getElem? (i := 1079) (by decide +kernel)) rfl
  | 29, _ => exact tbl_in (List.mem_of_getElem? (i := 1081) (by decide +kernel)) rfl
  | 30, _ => exact tbl_in (List.mem_of_getElem? (i := 1083) (by decide +kernel)) rfl
  | 31, _ => exact tbl_in (List.mem_of_getElem? (i := 1085) (by decide +kernel)) rfl
  | 32, _ => exact tbl_in (List.mem_of_getElem? (i := 1087) (by decide +kernel)) rfl
  | 33, _ => exact tbl_in (List.mem_of_getElem? (i := 1089) (by decide +kernel)) rfl
  | 34, _ => exact tbl_in (List.mem_of_getElem? (i := 1091) (by decide +kernel)) rfl
  | k + 35, h => exact absurd h (by omega)
theorem fw_L_10 : FW R_L 10 8 0 := ⟨_, rfl, Or.inl (tbl_in (List.mem_of_getElem? (i := 433) (by decide +kernel)) rfl)⟩
theorem fw_L_21 : FW R_L 21 8 1 := ⟨_, rfl, Or.inl (tbl_in (List.mem_of_getElem? (i := 434) (by decide +kernel)) rfl)⟩
theorem fw_L_25 : FW R_L 25 8 2 := ⟨_, rfl, Or.inl (tbl_in (List.mem_of_getElem? (i := 435) (by decide +kernel)) rfl)⟩
theorem fw_L_28 : FW R_L 28 8 3 := ⟨_, rfl, Or.inl (tbl_in (List.mem_of_getElem? (i := 436) (by decide +kernel)) rfl)⟩
theorem fw_L_32 : FW R_L 32 8 4 := ⟨_, rfl, Or.inl (tbl_in (List.mem_of_getElem? (i := 437) (by decide +kernel)) rfl)⟩
theorem fw_L_35 : FW R_L 35 8 5 := ⟨_, rfl, Or.inl (tbl_in (List.mem_of_getElem? (i := 438) (by decide +kernel)) rfl)⟩
theorem fw_L_42 : FW R_L 42 8 6 := ⟨_, rfl, Or.inl (tbl_in (List.mem_of_getElem? (i := 439) (by decide +kernel)) rfl)⟩
theorem fw_L_49 : FW R_L 49 8 7 := ⟨_, rfl, Or.inl (tbl_in (List.mem_of_getElem? (i := 440) (by decide +kernel)) rfl)⟩
theorem fw_L_56 : FW R_L 56 8 8 := ⟨_, rfl, Or.inl (tbl_in (List.mem_of_getElem? (i := 441) (by decide +kernel)) rfl)⟩
theorem fw_L_63 : FW R_L 63 8 9 := ⟨_, rfl, Or.inl (tbl_in (List.mem_of_getElem? (i := 442) (by decide +kernel)) rfl)⟩
theorem fw_L_67 : FW R_L 67 8 10 := ⟨_, rfl, Or.inl (tbl_in (List.mem_of_getElem? (i := 443) (by decide +kernel)) rfl)⟩
theorem fw_L_73 : FW R_L 73 8 11 := ⟨_, rfl, Or.inl (tbl_in (List.mem_of_getElem? (i := 444) (by decide +kernel)) rfl)⟩
theorem fw_L_77 : FW R_L 77 8 12 := ⟨_, rfl, Or.inl (tbl_in (List.mem_of_getElem? (i := 445) (by decide +kernel)) rfl)⟩
theorem fw_L_81 : FW R_L 81 8 13 := ⟨_, rfl, Or.inl (tbl_in (List.mem_of_getElem? (i := 446) (by decide +kernel)) rfl)⟩
theorem fw_L_85 : FW R_L 85 8 14 := ⟨_, rfl, Or.inl (tbl_in (List.mem_of_getElem? (i := 447) (by decide +kernel)) rfl)⟩
theorem fw_L_88 : FW R_L 88 8 15 := ⟨_, rfl, Or.inl (tbl_in (List.mem_of_getElem? (i := 448) (by decide +kernel)) rfl)⟩
theorem fw_L_98 : FW R_L 98 2 7 := ⟨_, rfl, Or.inr ⟨"LayeredCards", nst_in (List.mem_of_getElem? (i := 191) (by decide +kernel)) rfl⟩⟩
theorem fw_L_108 : FW R_L 108 7 1 := ⟨_, rfl, Or.inr ⟨"LayeredCards", nst_in (List.mem_of_getElem? (i := 404) (by decide +kernel)) rfl⟩⟩
theorem fw_L_118 : FW R_L 118 7 7 := ⟨_, rfl, Or.inr ⟨"LayeredCards", nst_in (List.mem_of_getElem? (i := 415) (by decide +kernel)) rfl⟩⟩
theorem fw_L_121 : FW R_L 121 7 3 := ⟨_, rfl, Or.inr ⟨"LayeredCards", nst_in (List.mem_of_getElem? (i := 407) (by decide +kernel)) rfl⟩⟩
theorem fw_L_128 : FW R_L 128 7 4 := ⟨_, rfl, Or.inr ⟨"LayeredCards", nst_in (List.mem_of_getElem? (i := 409) (by decide +kernel)) rfl⟩⟩
theorem fw_L_131 : FW R_L 131 7 5 := ⟨_, rfl, Or.inr ⟨"LayeredCards", nst_in (List.mem_of_getElem? (i := 411) (by decide +kernel)) rfl⟩⟩
theorem fw_L_134 : FW R_L 134 7 6 := ⟨_, rfl, Or.inr ⟨"LayeredCards", nst_in (List.mem_of_getElem? (i := 413) (by decide +kernel)) rfl⟩⟩
theorem fw_L_140 : FW R_L 140 0 0 := ⟨_, rfl, Or.inr ⟨"LayeredCards", nst_in (List.mem_of_getElem? (i := 134) (by decide +kernel)) rfl⟩⟩
theorem fw_L_141 : FW R_L 141 0 1 := ⟨_, rfl, Or.inr ⟨"LayeredCards", nst_in (List.mem_of_getElem? (i := 138) (by decide +kernel)) rfl⟩⟩
theorem fw_L_142 : FW R_L 142 0 2 := ⟨_, rfl, Or.inr ⟨"LayeredCards", nst_in (List.mem_of_getElem? (i := 143) (by decide +kernel)) rfl⟩⟩
theorem fw_L_145 : FW R_L 145 0 3 := ⟨_, rfl, Or.inr ⟨"LayeredCards", nst_in (List.mem_of_getElem? (i := 147) (by decide +kernel)) rfl⟩⟩
theorem fw_L_148 : FW R_L 148 0 4 := ⟨_, rfl, Or.inr ⟨"LayeredCards", nst_in (List.mem_of_getElem? (i := 152) (by decide +kernel)) rfl⟩⟩
theorem fw_L_149 : FW R_L 149 2 3 := ⟨_, rfl, Or.inr ⟨"LayeredCards", nst_in (List.mem_of_getElem? (i := 181) (by decide +kernel)) rfl⟩⟩
theorem fw_L_152 : FW R_L 152 2 4 := ⟨_, rfl, Or.inr ⟨"LayeredCards", nst_in (List.mem_of_getElem? (i := 183) (by decide +kernel)) rfl⟩⟩
theorem fw_L_160 : FW R_L 160 2 2 := ⟨_, rfl, Or.inr ⟨"LayeredCards", nst_in (List.mem_of_getElem? (i := 179) (by decide +kernel)) rfl⟩⟩
theorem fw_L_167 : FW R_L 167 2 1 := ⟨_, rfl, Or.inr ⟨"LayeredCards", nst_in (List.mem_of_getElem? (i := 176) (by decide +kernel)) rfl⟩⟩
theorem fw_L_178 : FW R_L 178 3 1 := ⟨_, rfl, Or.inr ⟨"LayeredCards", nst_in (List.mem_of_getElem? (i := 284) (by decide +kernel)) rfl⟩⟩
theorem fw_L_181 : FW R_L 181 3 3 := ⟨_, rfl, Or.inr ⟨"LayeredCards", nst_in (List.mem_of_getElem? (i := 288) (by decide +kernel)) rfl⟩⟩
theorem fw_L_184 : FW R_L 184 3 2 := ⟨_, rfl, Or.inr ⟨"LayeredCards", nst_in (List.mem_of_getElem? (i := 286) (by decide +kernel)) rfl⟩⟩
theorem fw_L_207 : FW R_L 207 1 5 := ⟨_, rfl, Or.inr ⟨"LayeredCards", nst_in (List.mem_of_getElem? (i := 323) (by decide +kernel)) rfl⟩⟩
theorem fw_L_208 : FW R_L 208 1 4 := ⟨_, rfl, Or.inr ⟨"LayeredCards", nst_in (List.mem_of_getElem? (i := 321) (by decide +kernel)) rfl⟩⟩
theorem fw_L_211 : FW R_L 211 2 9 := ⟨_, rfl, Or.inr ⟨"LayeredCards", nst_in (List.mem_of_getElem? (i := 201) (by decide +kernel)) rfl⟩⟩
theorem fw_L_217 : FW R_L 217 2 6 := ⟨_, rfl, Or.inr ⟨"LayeredCards", nst_in (List.mem_of_getElem? (i := 190) (by decide +kernel)) rfl⟩⟩
theorem fw_L_230 : FW R_L 230 6 4 := ⟨_, rfl, Or.inr ⟨"LayeredCards", nst_in (List.mem_of_getElem? (i := 345) (by decide +kernel)) rfl⟩⟩
theorem fw_L_233 : FW R_L 233 6 5 := ⟨_, rfl, Or.inr ⟨"LayeredCards", nst_in (List.mem_of_getElem? (i := 347) (by decide +kernel)) rfl⟩⟩
theorem fw_L_236 : FW R_L 236 6 6 := ⟨_, rfl, Or.inr ⟨"LayeredCards", nst_in (List.mem_of_getElem? (i := 349) (by decide +kernel)) rfl⟩⟩
theorem fw_L_239 : FW R_L 239 6 7 := ⟨_, rfl, Or.inr ⟨"LayeredCards", nst_in (List.mem_of_getElem? (i := 351) (by decide +kernel)) rfl⟩⟩
theorem fw_L_249 : FW R_L 249 2 11 := ⟨_, rfl, Or.inr ⟨"LayeredCards", nst_in (List.mem_of_getElem? (i := 206) (by decide +kernel)) rfl⟩⟩
theorem fw_L_275 : FW R_L 275 2 13 := ⟨_, rfl, Or.inr ⟨"LayeredCards", nst_in (List.mem_of_getElem? (i := 211) (by decide +kernel)) rfl⟩⟩
theorem fw_L_284 : FW R_L 284 4 2 := ⟨_, rfl, Or.inr ⟨"LayeredCards", nst_in (List.mem_of_getElem? (i := 384) (by decide +kernel)) rfl⟩⟩
theorem fw_L_287 : FW R_L 287 4 0 := ⟨_, rfl, Or.inr ⟨"LayeredCards", nst_in (List.mem_of_getElem? (i := 380) (by decide +kernel)) rfl⟩⟩
theorem fw_L_290 : FW R_L 290 4 3 := ⟨_, rfl, Or.inr ⟨"LayeredCards", nst_in (List.mem_of_getElem? (i := 386) (by decide +kernel)) rfl⟩⟩
theorem fw_L_293 : FW R_L 293 4 1 := ⟨_, rfl, Or.inr ⟨"LayeredCards", nst_in (List.mem_of_getElem? (i := 382) (by decide +kernel)) rfl⟩⟩
theorem fw_L_302 : FW R_L 302 2 8 := ⟨_, rfl, Or.inr ⟨"LayeredCards", nst_in (List.mem_of_getElem? (i := 197) (by decide +kernel)) rfl⟩⟩
theorem fw_L_305 : FW R_L 305 2 10 := ⟨_, rfl, Or.inr ⟨"LayeredCards", nst_in (List.mem_of_getElem? (i := 203) (by decide +kernel)) rfl⟩⟩
theorem fw_L_308 : FW R_L 308 2 12 := ⟨_, rfl, Or.inr ⟨"LayeredCards", nst_in (List.mem_of_getElem? (i := 209) (by decide +kernel)) rfl⟩⟩
theorem fw_K_9 : FW R_K 9 0 0 := ⟨_, rfl, Or.inl (tbl_in (List.mem_of_getElem? (i := 130) (by decide +kernel)) rfl)⟩
theorem fw_K_15 : FW R_K 15 0 1 := ⟨_, rfl, Or.inl (tbl_in (List.mem_of_getElem? (i := 135) (by decide +kernel)) rfl)⟩
theorem fw_K_18 : FW R_K 18 0 2 := ⟨_, rfl, Or.inl (tbl_in (List.mem_of_getElem? (i := 140) (by decide +kernel)) rfl)⟩
theorem fw_K_21 : FW R_K 21 0 3 := ⟨_, rfl, Or.inl (tbl_in (List.mem_of_getElem? (i := 145) (by decide +kernel)) rfl)⟩
theorem fw_K_24 : FW R_K 24 0 4 := ⟨_, rfl, Or.inl (tbl_in (List.mem_of_getElem? (i := 150) (by decide +kernel)) rfl)⟩
theorem fw_E_9 : FW R_E 9 1 4 := ⟨_, rfl, Or.inl (tbl_in (List.mem_of_getElem? (i := 320) (by decide +kernel)) rfl)⟩
theorem fw_E_15 : FW R_E 15 1 0 := ⟨_, rfl, Or.inl (tbl_in (List.mem_of_getElem? (i := 313) (by decide +kernel)) rfl)⟩
theorem fw_E_19 : FW R_E 19 1 1 := ⟨_, rfl, Or.inl (tbl_in (List.mem_of_getElem? (i := 314) (by decide +kernel)) rfl)⟩
theorem fw_E_23 : FW R_E 23 1 2 := ⟨_, rfl, Or.inl (tbl_in (List.mem_of_getElem? (i := 316) (by decide +kernel)) rfl)⟩
theorem fw_E_30 : FW R_E 30 1 3 := ⟨_, rfl, Or.inl (tbl_in (List.mem_of_getElem? (i := 318) (by decide +kernel)) rfl)⟩
theorem fw_E_33 : FW R_E 33 1 5 := ⟨_, rfl, Or.inl (tbl_in (List.mem_of_getElem? (i := 322) (by decide +kernel)) rfl)⟩
theorem fw_E_36 : FW R_E 36 1 6 := ⟨_, rfl, Or.inl (tbl_in (List.mem_of_getElem? (i := 324) (by decide +kernel)) rfl)⟩
theorem fw_E_46 : FW R_E 46 2 8 := ⟨_, rfl, Or.inr ⟨"LayeredCards", nst_in (List.mem_of_getElem? (i := 195) (by decide +kernel)) rfl⟩⟩
theorem fw_E_51 : FW R_E 51 2 5 := ⟨_, rfl, Or.inr ⟨"LayeredCards", nst_in (List.mem_of_getElem? (i := 186) (by decide +kernel)) rfl⟩⟩
theorem fw_E_66 : FW R_E 66 0 0 := ⟨_, rfl, Or.inr ⟨"LayeredCards", nst_in (List.mem_of_getElem? (i := 133) (by decide +kernel)) rfl⟩⟩
theorem fw_E_75 : FW R_E 75 0 2 := ⟨_, rfl, Or.inr ⟨"LayeredCards", nst_in (List.mem_of_getElem? (i := 142) (by decide +kernel)) rfl⟩⟩
theorem fw_E_78 : FW R_E 78 0 1 := ⟨_, rfl, Or.inr ⟨"LayeredCards", nst_in (List.mem_of_getElem? (i := 137) (by decide +kernel)) rfl⟩⟩
theorem fw_E_85 : FW R_E 85 0 4 := ⟨_, rfl, Or.inr ⟨"LayeredCards", nst_in (List.mem_of_getElem? (i := 153) (by decide +kernel)) rfl⟩⟩
theorem fw_E_91 : FW R_E 91 0 3 := ⟨_, rfl, Or.inr ⟨"LayeredCards", nst_in (List.mem_of_getElem? (i := 148) (by decide +kernel)) rfl⟩⟩
theorem fw_G_9 : FW R_G 9 2 1 := ⟨_, rfl, Or.inl (tbl_in (List.mem_of_getElem? (i := 174) (by decide +kernel)) rfl)⟩
theorem fw_G_15 : FW R_G 15 2 2 := ⟨_, rfl, Or.inl (tbl_in (List.mem_of_getElem? (i := 177) (by decide +kernel)) rfl)⟩
theorem fw_G_18 : FW R_G 18 2 3 := ⟨_, rfl, Or.inl (tbl_in (List.mem_of_getElem? (i := 180) (by decide +kernel)) rfl)⟩
theorem fw_G_21 : FW R_G 21 2 4 := ⟨_, rfl, Or.inl (tbl_in (List.mem_of_getElem? (i := 182) (by decide +kernel)) rfl)⟩
theorem fw_G_24 : FW R_G 24 2 5 := ⟨_, rfl, Or.inl (tbl_in (List.mem_of_getElem? (i := 184) (by decide +kernel)) rfl)⟩
theorem fw_G_27 : FW R_G 27 2 6 := ⟨_, rfl, Or.inl (tbl_in (List.mem_of_getElem? (i := 188) (by decide +kernel)) rfl)⟩
theorem fw_G_30 : FW R_G 30 2 13 := ⟨_, rfl, Or.inl (tbl_in (List.mem_of_getElem? (i := 210) (by decide +kernel)) rfl)⟩
theorem fw_G_34 : FW R_G 34 2 0 := ⟨_, rfl, Or.inl (tbl_in (List.mem_of_getElem? (i := 173) (by decide +kernel)) rfl)⟩
theorem fw_G_42 : FW R_G 42 2 7 := ⟨_, rfl, Or.inl (tbl_in (List.mem_of_getElem? (i := 192) (by decide +kernel)) rfl)⟩
theorem fw_G_45 : FW R_G 45 2 8 := ⟨_, rfl, Or.inl (tbl_in (List.mem_of_getElem? (i := 193) (by decide +kernel)) rfl)⟩
theorem fw_G_48 : FW R_G 48 2 9 := ⟨_, rfl, Or.inl (tbl_in (List.mem_of_getElem? (i := 199) (by decide +kernel)) rfl)⟩
theorem fw_G_51 : FW R_G 51 2 10 := ⟨_, rfl, Or.inl (tbl_in (List.mem_of_getElem? (i := 202) (by decide +kernel)) rfl)⟩
theorem fw_G_54 : FW R_G 54 2 11 := ⟨_, rfl, Or.inl (tbl_in (List.mem_of_getElem? (i := 204) (by decide +kernel)) rfl)⟩
theorem fw_G_57 : FW R_G 57 2 12 := ⟨_, rfl, Or.inl (tbl_in (List.mem_of_getElem? (i := 207) (by decide +kernel)) rfl)⟩
theorem fw_G_60 : FW R_G 60 2 14 := ⟨_, rfl, Or.inl (tbl_in (List.mem_of_getElem? (i := 213) (by decide +kernel)) rfl)⟩
theorem fw_G_85 : FW R_G 85 0 1 := ⟨_, rfl, Or.inr ⟨"LayeredCards", nst_in (List.mem_of_getElem? (i := 139) (by decide +kernel)) rfl⟩⟩
theorem fw_Y_9 : FW R_Y 9 3 1 := ⟨_, rfl, Or.inl (tbl_in (List.mem_of_getElem? (i := 282) (by decide +kernel)) rfl)⟩
theorem fw_Y_15 : FW R_Y 15 3 2 := ⟨_, rfl, Or.inl (tbl_in (List.mem_of_getElem? (i := 285) (by decide +kernel)) rfl)⟩
theorem fw_Y_18 : FW R_Y 18 3 4 := ⟨_, rfl, Or.inl (tbl_in (List.mem_of_getElem? (i := 289) (by decide +kernel)) rfl)⟩
theorem fw_Y_21 : FW R_Y 21 3 5 := ⟨_, rfl, Or.inl (tbl_in (List.mem_of_getElem? (i := 290) (by decide +kernel)) rfl)⟩
theorem fw_Y_24 : FW R_Y 24 3 0 := ⟨_, rfl, Or.inl (tbl_in (List.mem_of_getElem? (i := 281) (by decide +kernel)) rfl)⟩
theorem fw_Y_28 : FW R_Y 28 2 2 := ⟨_, rfl, Or.inr ⟨"LayeredCards", nst_in (List.mem_of_getElem? (i := 178) (by decide +kernel)) rfl⟩⟩
theorem fw_Y_41 : FW R_Y 41 3 3 := ⟨_, rfl, Or.inl (tbl_in (List.mem_of_getElem? (i := 287) (by decide +kernel)) rfl)⟩
theorem fw_Y_45 : FW R_Y 45 3 6 := ⟨_, rfl, Or.inl (tbl_in (List.mem_of_getElem? (i := 291) (by decide +kernel)) rfl)⟩
theorem fw_Y_60 : FW R_Y 60 2 8 := ⟨_, rfl, Or.inr ⟨"LayeredCards", nst_in (List.mem_of_getElem? (i := 194) (by decide +kernel)) rfl⟩⟩
theorem fw_Y_63 : FW R_Y 63 2 5 := ⟨_, rfl, Or.inr ⟨"LayeredCards", nst_in (List.mem_of_getElem? (i := 185) (by decide +kernel)) rfl⟩⟩
theorem fw_Y_70 : FW R_Y 70 0 0 := ⟨_, rfl, Or.inr ⟨"LayeredCards", nst_in (List.mem_of_getElem? (i := 131) (by decide +kernel)) rfl⟩⟩
theorem fw_Y_83 : FW R_Y 83 0 2 := ⟨_, rfl, Or.inr ⟨"LayeredCards", nst_in (List.mem_of_getElem? (i := 141) (by decide +kernel)) rfl⟩⟩
theorem fw_Y_93 : FW R_Y 93 0 3 := ⟨_, rfl, Or.inr ⟨"LayeredCards", nst_in (List.mem_of_getElem? (i := 146) (by decide +kernel)) rfl⟩⟩
theorem fw_Y_96 : FW R_Y 96 0 4 := ⟨_, rfl, Or.inr ⟨"LayeredCards", nst_in (List.mem_of_getElem? (i := 154) (by decide +kernel)) rfl⟩⟩
theorem fw_O_9 : FW R_O 9 4 0 := ⟨_, rfl, Or.inl (tbl_in (List.mem_of_getElem? (i := 379) (by decide +kernel)) rfl)⟩
theorem fw_O_15 : FW R_O 15 4 1 := ⟨_, rfl, Or.inl (tbl_in (List.mem_of_getElem? (i := 381) (by decide +kernel)) rfl)⟩
theorem fw_O_18 : FW R_O 18 4 2 := ⟨_, rfl, Or.inl (tbl_in (List.mem_of_getElem? (i := 383) (by decide +kernel)) rfl)⟩
theorem fw_O_22 : FW R_O 22 4 3 := ⟨_, rfl, Or.inl (tbl_in (List.mem_of_getElem? (i := 385) (by decide +kernel)) rfl)⟩
theorem fw_P_9 : FW R_P 9 5 0 := ⟨_, rfl, Or.inl (tbl_in (List.mem_of_getElem? (i := 258) (by decide +kernel)) rfl)⟩
theorem fw_P_15 : FW R_P 15 5 1 := ⟨_, rfl, Or.inl (tbl_in (List.mem_of_getElem? (i := 259) (by decide +kernel)) rfl)⟩
theorem fw_P_18 : FW R_P 18 5 2 := ⟨_, rfl, Or.inl (tbl_in (List.mem_of_getElem? (i := 260) (by decide +kernel)) rfl)⟩
theorem fw_P_21 : FW R_P 21 5 3 := ⟨_, rfl, Or.inl (tbl_in (List.mem_of_getElem? (i := 261) (by decide +kernel)) rfl)⟩
theorem fw_P_24 : FW R_P 24 5 4 := ⟨_, rfl, Or.inl (tbl_in (List.mem_of_getElem? (i := 262) (by decide +kernel)) rfl)⟩
theorem fw_P_28 : FW R_P 28 2 14 := ⟨_, rfl, Or.inr ⟨"LayeredCards", nst_in (List.mem_of_getElem? (i := 212) (by decide +kernel)) rfl⟩⟩
theorem fw_P_37 : FW R_P 37 2 1 := ⟨_, rfl, Or.inr ⟨"LayeredCards", nst_in (List.mem_of_getElem? (i := 175) (by decide +kernel)) rfl⟩⟩
theorem fw_P_44 : FW R_P 44 2 9 := ⟨_, rfl, Or.inr ⟨"LayeredCards", nst_in (List.mem_of_getElem? (i := 198) (by decide +kernel)) rfl⟩⟩
theorem fw_P_47 : FW R_P 47 2 6 := ⟨_, rfl, Or.inr ⟨"LayeredCards", nst_in (List.mem_of_getElem? (i := 189) (by decide +kernel)) rfl⟩⟩
theorem fw_R_12 : FW R_R 12 6 3 := ⟨_, rfl, Or.inl (tbl_in (List.mem_of_getElem? (i := 343) (by decide +kernel)) rfl)⟩
theorem fw_R_18 : FW R_R 18 6 0 := ⟨_, rfl, Or.inl (tbl_in (List.mem_of_getElem? (i := 340) (by decide +kernel)) rfl)⟩
theorem fw_R_27 : FW R_R 27 6 1 := ⟨_, rfl, Or.inl (tbl_in (List.mem_of_getElem? (i := 341) (by decide +kernel)) rfl)⟩
theorem fw_R_34 : FW R_R 34 6 2 := ⟨_, rfl, Or.inl (tbl_in (List.mem_of_getElem? (i := 342) (by decide +kernel)) rfl)⟩
theorem fw_R_38 : FW R_R 38 6 5 := ⟨_, rfl, Or.inl (tbl_in (List.mem_of_getElem? (i := 346) (by decide +kernel)) rfl)⟩
theorem fw_R_42 : FW R_R 42 6 6 := ⟨_, rfl, Or.inl (tbl_in (List.mem_of_getElem? (i := 348) (by decide +kernel)) rfl)⟩
theorem fw_R_45 : FW R_R 45 6 4 := ⟨_, rfl, Or.inl (tbl_in (List.mem_of_getElem? (i := 344) (by decide +kernel)) rfl)⟩
theorem fw_R_48 : FW R_R 48 6 7 := ⟨_, rfl, Or.inl (tbl_in (List.mem_of_getElem? (i := 350) (by decide +kernel)) rfl)⟩
theorem fw_R_65 : FW R_R 65 2 9 := ⟨_, rfl, Or.inr ⟨"LayeredCards", nst_in (List.mem_of_getElem? (i := 200) (by decide +kernel)) rfl⟩⟩
theorem fw_R_91 : FW R_R 91 0 0 := ⟨_, rfl, Or.inr ⟨"LayeredCards", nst_in (List.mem_of_getElem? (i := 132) (by decide +kernel)) rfl⟩⟩
theorem fw_R_115 : FW R_R 115 0 1 := ⟨_, rfl, Or.inr ⟨"LayeredCards", nst_in (List.mem_of_getElem? (i := 136) (by decide +kernel)) rfl⟩⟩
theorem fw_R_125 : FW R_R 125 0 4 := ⟨_, rfl, Or.inr ⟨"LayeredCards", nst_in (List.mem_of_getElem? (i := 151) (by decide +kernel)) rfl⟩⟩
theorem fw_R_132 : FW R_R 132 2 8 := ⟨_, rfl, Or.inr ⟨"LayeredCards", nst_in (List.mem_of_getElem? (i := 196) (by decide +kernel)) rfl⟩⟩
theorem fw_R_135 : FW R_R 135 2 5 := ⟨_, rfl, Or.inr ⟨"LayeredCards", nst_in (List.mem_of_getElem? (i := 187) (by decide +kernel)) rfl⟩⟩
theorem fw_R_141 : FW R_R 141 3 1 := ⟨_, rfl, Or.inr ⟨"LayeredCards", nst_in (List.mem_of_getElem? (i := 283) (by decide +kernel)) rfl⟩⟩
theorem fw_R_156 : FW R_R 156 1 1 := ⟨_, rfl, Or.inr ⟨"LayeredCards", nst_in (List.mem_of_getElem? (i := 315) (by decide +kernel)) rfl⟩⟩
theorem fw_R_159 : FW R_R 159 1 2 := ⟨_, rfl, Or.inr ⟨"LayeredCards", nst_in (List.mem_of_getElem? (i := 317) (by decide +kernel)) rfl⟩⟩
theorem fw_R_162 : FW R_R 162 1 3 := ⟨_, rfl, Or.inr ⟨"LayeredCards", nst_in (List.mem_of_getElem? (i := 319) (by decide +kernel)) rfl⟩⟩
theorem fw_R_174 : FW R_R 174 0 2 := ⟨_, rfl, Or.inr ⟨"LayeredCards", nst_in (List.mem_of_getElem? (i := 144) (by decide +kernel)) rfl⟩⟩
theorem fw_R_177 : FW R_R 177 0 3 := ⟨_, rfl, Or.inr ⟨"LayeredCards", nst_in (List.mem_of_getElem? (i := 149) (by decide +kernel)) rfl⟩⟩
theorem fw_R_194 : FW R_R 194 2 11 := ⟨_, rfl, Or.inr ⟨"LayeredCards", nst_in (List.mem_of_getElem? (i := 205) (by decide +kernel)) rfl⟩⟩
theorem fw_R_203 : FW R_R 203 2 12 := ⟨_, rfl, Or.inr ⟨"LayeredCards", nst_in (List.mem_of_getElem? (i := 208) (by decide +kernel)) rfl⟩⟩
theorem fw_T_9 : FW R_T 9 7 0 := ⟨_, rfl, Or.inl (tbl_in (List.mem_of_getElem? (i := 402) (by decide +kernel)) rfl)⟩
theorem fw_T_15 : FW R_T 15 7 3 := ⟨_, rfl, Or.inl (tbl_in (List.mem_of_getElem? (i := 406) (by decide +kernel)) rfl)⟩
theorem fw_T_18 : FW R_T 18 7 4 := ⟨_, rfl, Or.inl (tbl_in (List.mem_of_getElem? (i := 408) (by decide +kernel)) rfl)⟩
theorem fw_T_21 : FW R_T 21 7 5 := ⟨_, rfl, Or.inl (tbl_in (List.mem_of_getElem? (i := 410) (by decide +kernel)) rfl)⟩
theorem fw_T_24 : FW R_T 24 7 6 := ⟨_, rfl, Or.inl (tbl_in (List.mem_of_getElem? (i := 412) (by decide +kernel)) rfl)⟩
theorem fw_T_27 : FW R_T 27 7 1 := ⟨_, rfl, Or.inl (tbl_in (List.mem_of_getElem? (i := 403) (by decide +kernel)) rfl)⟩
theorem fw_T_35 : FW R_T 35 7 2 := ⟨_, rfl, Or.inl (tbl_in (List.mem_of_getElem? (i := 405) (by decide +kernel)) rfl)⟩
theorem fw_T_38 : FW R_T 38 7 7 := ⟨_, rfl, Or.inl (tbl_in (List.mem_of_getElem? (i := 414) (by decide +kernel)) rfl)⟩
theorem fw_M_9 : FW R_M 9 9 0 := ⟨_, rfl, Or.inl (tbl_in (List.mem_of_getElem? (i := 988) (by decide +kernel)) rfl)⟩
theorem fw_M_13 : FW R_M 13 9 1 := ⟨_, rfl, Or.inl (tbl_in (List.mem_of_getElem? (i := 989) (by decide +kernel)) rfl)⟩
theorem fw_M_16 : FW R_M 16 9 2 := ⟨_, rfl, Or.inl (tbl_in (List.mem_of_getElem? (i := 990) (by decide +kernel)) rfl)⟩
theorem fw_M_19 : FW R_M 19 9 3 := ⟨_, rfl, Or.inl (tbl_in (List.mem_of_getElem? (i := 991) (by decide +kernel)) rfl)⟩
theorem fw_M_22 : FW R_M 22 9 4 := ⟨_, rfl, Or.inl (tbl_in (List.mem_of_getElem? (i := 992) (by decide +kernel)) rfl)⟩
theorem fw_M_25 : FW R_M 25 9 6 := ⟨_, rfl, Or.inl (tbl_in (List.mem_of_getElem? (i := 994) (by decide +kernel)) rfl)⟩
theorem fw_M_30 : FW R_M 30 9 7 := ⟨_, rfl, Or.inl (tbl_in (List.mem_of_getElem? (i := 995) (by decide +kernel)) rfl)⟩
theorem fw_M_33 : FW R_M 33 9 8 := ⟨_, rfl, Or.inl (tbl_in (List.mem_of_getElem? (i := 996) (by decide +kernel)) rfl)⟩
theorem fw_M_36 : FW R_M 36 9 9 := ⟨_, rfl, Or.inl (tbl_in (List.mem_of_getElem? (i := 997) (by decide +kernel)) rfl)⟩
theorem fw_M_40 : FW R_M 40 9 10 := ⟨_, rfl, Or.inl (tbl_in (List.mem_of_getElem? (i := 998) (by decide +kernel)) rfl)⟩
theorem fw_M_43 : FW R_M 43 9 11 := ⟨_, rfl, Or.inl (tbl_in (List.mem_of_getElem? (i := 999) (by decide +kernel)) rfl)⟩
theorem fw_M_46 : FW R_M 46 9 12 := ⟨_, rfl, Or.inl (tbl_in (List.mem_of_getElem? (i := 1000) (by decide +kernel)) rfl)⟩
theorem fw_M_49 : FW R_M 49 9 14 := ⟨_, rfl, Or.inl (tbl_in (List.mem_of_getElem? (i := 1002) (by decide +kernel)) rfl)⟩
theorem fw_M_52 : FW R_M 52 9 19 := ⟨_, rfl, Or.inl (tbl_in (List.mem_of_getElem? (i := 1007) (by decide +kernel)) rfl)⟩
theorem fw_M_55 : FW R_M 55 9 21 := ⟨_, rfl, Or.inl (tbl_in (List.mem_of_getElem? (i := 1009) (by decide +kernel)) rfl)⟩
theorem fw_M_58 : FW R_M 58 9 26 := ⟨_, rfl, Or.inl (tbl_in (List.mem_of_getElem? (i := 1014) (by decide +kernel)) rfl)⟩
theorem fw_M_61 : FW R_M 61 9 27 := ⟨_, rfl, Or.inl (tbl_in (List.mem_of_getElem? (i := 1015) (by decide +kernel)) rfl)⟩
theorem fw_M_64 : FW R_M 64 9 28 := ⟨_, rfl, Or.inl (tbl_in (List.mem_of_getElem? (i := 1016) (by decide +kernel)) rfl)⟩
theorem fw_M_67 : FW R_M 67 9 30 := ⟨_, rfl, Or.inl (tbl_in (List.mem_of_getElem? (i := 1018) (by decide +kernel)) rfl)⟩
theorem fw_M_70 : FW R_M 70 9 5 := ⟨_, rfl, Or.inl (tbl_in (List.mem_of_getElem? (i := 993) (by decide +kernel)) rfl)⟩
theorem fw_M_81 : FW R_M 81 9 20 := ⟨_, rfl, Or.inl (tbl_in (List.mem_of_getElem? (i := 1008) (by decide +kernel)) rfl)⟩
theorem fw_M_113 : FW R_M 113 9 33 := ⟨_, rfl, Or.inl (tbl_in (List.mem_of_getElem? (i := 1021) (by decide +kernel)) rfl)⟩
theorem fw_M_116 : FW R_M 116 9 34 := ⟨_, rfl, Or.inl (tbl_in (List.mem_of_getElem? (i := 1022) (by decide +kernel)) rfl)⟩
theorem fw_M_171 : FW R_M 171 9 13 := ⟨_, rfl, Or.inl (tbl_in (List.mem_of_getElem? (i := 1001) (by decide +kernel)) rfl)⟩
theorem fw_M_202 : FW R_M 202 9 16 := ⟨_, rfl, Or.inl (tbl_in (List.mem_of_getElem? (i := 1004) (by decide +kernel)) rfl)⟩
theorem fw_M_205 : FW R_M 205 9 17 := ⟨_, rfl, Or.inl (tbl_in (List.mem_of_getElem? (i := 1005) (by decide +kernel)) rfl)⟩
theorem fw_M_208 : FW R_M 208 9 15 := ⟨_, rfl, Or.inl (tbl_in (List.mem_of_getElem? (i := 1003) (by decide +kernel)) rfl)⟩
theorem fw_M_217 : FW R_M 217 9 18 := ⟨_, rfl, Or.inl (tbl_in (List.mem_of_getElem? (i := 1006) (by decide +kernel)) rfl)⟩
theorem fw_M_234 : FW R_M 234 9 32 := ⟨_, rfl, Or.inl (tbl_in (List.mem_of_getElem? (i := 1020) (by decide +kernel)) rfl)⟩
theorem fw_M_238 : FW R_M 238 9 31 := ⟨_, rfl, Or.inl (tbl_in (List.mem_of_getElem? (i := 1019) (by decide +kernel)) rfl)⟩
theorem fw_M_257 : FW R_M 257 9 29 := ⟨_, rfl, Or.inl (tbl_in (List.mem_of_getElem? (i := 1017) (by decide +kernel)) rfl)⟩
theorem fw_M_269 : FW R_M 269 9 23 := ⟨_, rfl, Or.inl (tbl_in (List.mem_of_getElem? (i := 1011) (by decide +kernel)) rfl)⟩
theorem fw_M_272 : FW R_M 272 9 24 := ⟨_, rfl, Or.inl (tbl_in (List.mem_of_getElem? (i := 1012) (by decide +kernel)) rfl)⟩
theorem fw_M_279 : FW R_M 279 9 22 := ⟨_, rfl, Or.inl (tbl_in (List.mem_of_getElem? (i := 1010) (by decide +kernel)) rfl)⟩
theorem fw_M_291 : FW R_M 291 9 25 := ⟨_, rfl, Or.inl (tbl_in (List.mem_of_getElem? (i := 1013) (by decide +kernel)) rfl)⟩
theorem mx_K_write : MX y_K_write b_K_write 6 none 5 false := ⟨tbl_in (List.mem_of_getElem? (i := 499) (by decide +kernel)) rfl, tbl_in (List.mem_of_getElem? (i := 101) (by decide +kernel)) rfl, by decide +kernel, ⟨by decide +kernel, by decide +kernel, by decide +kernel⟩, ⟨tbl_in (List.mem_of_getElem? (i := 498) (by decide +kernel)) rfl, tbl_in (List.mem_of_getElem? (i := 1) (by decide +kernel)) rfl⟩⟩
theorem mx_E_become : MX y_E_become b_E_become 4 none 3 false := ⟨tbl_in (List.mem_of_getElem? (i := 713) (by decide +kernel)) rfl, tbl_in (List.mem_of_getElem? (i := 106) (by decide +kernel)) rfl, by decide +kernel, ⟨by decide +kernel, by decide +kernel, by decide +kernel⟩, ⟨tbl_in (List.mem_of_getElem? (i := 712) (by decide +kernel)) rfl, tbl_in (List.mem_of_getElem? (i := 21) (by decide +kernel)) rfl⟩⟩
theorem mx_E_becomeTold : MX y_E_becomeTold b_E_becomeTold 2 none 1 false := ⟨tbl_in (List.mem_of_getElem? (i := 709) (by decide +kernel)) rfl, tbl_in (List.mem_of_getElem? (i := 106) (by decide +kernel)) rfl, by decide +kernel, ⟨by decide +kernel, by decide +kernel, by decide +kernel⟩, ⟨tbl_in (List.mem_of_getElem? (i := 708) (by decide +kernel)) rfl, tbl_in (List.mem_of_getElem? (i := 20) (by decide +kernel)) rfl⟩⟩
theorem mx_E_told : MX y_E_told b_E_told 1 (some .int) 0 false := ⟨tbl_in (List.mem_of_getElem? (i := 736) (by decide +kernel)) rfl, tbl_in (List.mem_of_getElem? (i := 106) (by decide +kernel)) rfl, by decide +kernel, ⟨by decide +kernel, by decide +kernel, by decide +kernel⟩, ⟨tbl_in (List.mem_of_getElem? (i := 735) (by decide +kernel)) rfl, tbl_in (List.mem_of_getElem? (i := 25) (by decide +kernel)) rfl⟩⟩
theorem mx_E_replaceBy : MX y_E_replaceBy b_E_replaceBy 5 none 1 false := ⟨tbl_in (List.mem_of_getElem? (i := 718) (by decide +kernel)) rfl, tbl_in (List.mem_of_getElem? (i := 106) (by decide +kernel)) rfl, by decide +kernel, ⟨by decide +kernel, by decide +kernel, by decide +kernel⟩, ⟨tbl_in (List.mem_of_getElem? (i := 717) (by decide +kernel)) rfl, tbl_in (List.mem_of_getElem? (i := 22) (by decide +kernel)) rfl⟩⟩
theorem mx_E_fits : MX y_E_fits b_E_fits 3 (some .boolean) 1 false := ⟨tbl_in (List.mem_of_getElem? (i := 723) (by decide +kernel)) rfl, tbl_in (List.mem_of_getElem? (i := 106) (by decide +kernel)) rfl, by decide +kernel, ⟨by decide +kernel, by decide +kernel, by decide +kernel⟩, ⟨tbl_in (List.mem_of_getElem? (i := 722) (by decide +kernel)) rfl, tbl_in (List.mem_of_getElem? (i := 23) (by decide +kernel)) rfl⟩⟩
theorem mx_E_use : MX y_E_use b_E_use 3 none 1 false := ⟨tbl_in (List.mem_of_getElem? (i := 728) (by decide +kernel)) rfl, tbl_in (List.mem_of_getElem? (i := 106) (by decide +kernel)) rfl, by decide +kernel, ⟨by decide +kernel, by decide +kernel, by decide +kernel⟩, ⟨tbl_in (List.mem_of_getElem? (i := 727) (by decide +kernel)) rfl, tbl_in (List.mem_of_getElem? (i := 24) (by decide +kernel)) rfl⟩⟩
theorem mx_G_copyFrom : MX y_G_copyFrom b_G_copyFrom 2 none 1 false := ⟨tbl_in (List.mem_of_getElem? (i := 900) (by decide +kernel)) rfl, tbl_in (List.mem_of_getElem? (i := 102) (by decide +kernel)) rfl, by decide +kernel, ⟨by decide +kernel, by decide +kernel, by decide +kernel⟩, ⟨tbl_in (List.mem_of_getElem? (i := 899) (by decide +kernel)) rfl, tbl_in (List.mem_of_getElem? (i := 51) (by decide +kernel)) rfl⟩⟩
theorem mx_G_has : MX y_G_has b_G_has 2 (some .boolean) 1 false := ⟨tbl_in (List.mem_of_getElem? (i := 609) (by decide +kernel)) rfl, tbl_in (List.mem_of_getElem? (i := 102) (by decide +kernel)) rfl, by decide +kernel, ⟨by decide +kernel, by decide +kernel, by decide +kernel⟩, ⟨tbl_in (List.mem_of_getElem? (i := 608) (by decide +kernel)) rfl, tbl_in (List.mem_of_getElem? (i := 10) (by decide +kernel)) rfl⟩⟩
theorem mx_G_addCard : MX y_G_addCard b_G_addCard 6 (some .int) 4 false := ⟨tbl_in (List.mem_of_getElem? (i := 495) (by decide +kernel)) rfl, tbl_in (List.mem_of_getElem? (i := 102) (by decide +kernel)) rfl, by decide +kernel, ⟨by decide +kernel, by decide +kernel, by decide +kernel⟩, ⟨tbl_in (List.mem_of_getElem? (i := 494) (by decide +kernel)) rfl, tbl_in (List.mem_of_getElem? (i := 0) (by decide +kernel)) rfl⟩⟩
theorem mx_G_moveTo : MX y_G_moveTo b_G_moveTo 3 none 2 false := ⟨tbl_in (List.mem_of_getElem? (i := 617) (by decide +kernel)) rfl, tbl_in (List.mem_of_getElem? (i := 102) (by decide +kernel)) rfl, by decide +kernel, ⟨by decide +kernel, by decide +kernel, by decide +kernel⟩, ⟨tbl_in (List.mem_of_getElem? (i := 616) (by decide +kernel)) rfl, tbl_in (List.mem_of_getElem? (i := 11) (by decide +kernel)) rfl⟩⟩
theorem mx_G_playCard : MX y_G_playCard b_G_playCard 2 none 1 false := ⟨tbl_in (List.mem_of_getElem? (i := 747) (by decide +kernel)) rfl, tbl_in (List.mem_of_getElem? (i := 102) (by decide +kernel)) rfl, by decide +kernel, ⟨by decide +kernel, by decide +kernel, by decide +kernel⟩, ⟨tbl_in (List.mem_of_getElem? (i := 746) (by decide +kernel)) rfl, tbl_in (List.mem_of_getElem? (i := 26) (by decide +kernel)) rfl⟩⟩
theorem mx_G_layDown : MX y_G_layDown b_G_layDown 2 none 1 false := ⟨tbl_in (List.mem_of_getElem? (i := 823) (by decide +kernel)) rfl, tbl_in (List.mem_of_getElem? (i := 102) (by decide +kernel)) rfl, by decide +kernel, ⟨by decide +kernel, by decide +kernel, by decide +kernel⟩, ⟨tbl_in (List.mem_of_getElem? (i := 822) (by decide +kernel)) rfl, tbl_in (List.mem_of_getElem? (i := 38) (by decide +kernel)) rfl⟩⟩
theorem mx_G_takeOff : MX y_G_takeOff b_G_takeOff 5 none 1 false := ⟨tbl_in (List.mem_of_getElem? (i := 836) (by decide +kernel)) rfl, tbl_in (List.mem_of_getElem? (i := 102) (by decide +kernel)) rfl, by decide +kernel, ⟨by decide +kernel, by decide +kernel, by decide +kernel⟩, ⟨tbl_in (List.mem_of_getElem? (i := 835) (by decide +kernel)) rfl, tbl_in (List.mem_of_getElem? (i := 41) (by decide +kernel)) rfl⟩⟩
theorem mx_G_push : MX y_G_push b_G_push 2 (some .boolean) 1 false := ⟨tbl_in (List.mem_of_getElem? (i := 751) (by decide +kernel)) rfl, tbl_in (List.mem_of_getElem? (i := 102) (by decide +kernel)) rfl, by decide +kernel, ⟨by decide +kernel, by decide +kernel, by decide +kernel⟩, ⟨tbl_in (List.mem_of_getElem? (i := 750) (by decide +kernel)) rfl, tbl_in (List.mem_of_getElem? (i := 27) (by decide +kernel)) rfl⟩⟩
theorem mx_G_pop : MX y_G_pop b_G_pop 1 (some .int) 0 false := ⟨tbl_in (List.mem_of_getElem? (i := 772) (by decide +kernel)) rfl, tbl_in (List.mem_of_getElem? (i := 102) (by decide +kernel)) rfl, by decide +kernel, ⟨by decide +kernel, by decide +kernel, by decide +kernel⟩, ⟨tbl_in (List.mem_of_getElem? (i := 771) (by decide +kernel)) rfl, tbl_in (List.mem_of_getElem? (i := 30) (by decide +kernel)) rfl⟩⟩
theorem mx_G_countIn : MX y_G_countIn b_G_countIn 5 (some .int) 2 false := ⟨tbl_in (List.mem_of_getElem? (i := 635) (by decide +kernel)) rfl, tbl_in (List.mem_of_getElem? (i := 102) (by decide +kernel)) rfl, by decide +kernel, ⟨by decide +kernel, by decide +kernel, by decide +kernel⟩, ⟨tbl_in (List.mem_of_getElem? (i := 634) (by decide +kernel)) rfl, tbl_in (List.mem_of_getElem? (i := 12) (by decide +kernel)) rfl⟩⟩
theorem mx_G_nthIn : MX y_G_nthIn b_G_nthIn 6 (some .int) 3 false := ⟨tbl_in (List.mem_of_getElem? (i := 810) (by decide +kernel)) rfl, tbl_in (List.mem_of_getElem? (i := 102) (by decide +kernel)) rfl, by decide +kernel, ⟨by decide +kernel, by decide +kernel, by decide +kernel⟩, ⟨tbl_in (List.mem_of_getElem? (i := 809) (by decide +kernel)) rfl, tbl_in (List.mem_of_getElem? (i := 36) (by decide +kernel)) rfl⟩⟩
theorem mx_G_drawOne : MX y_G_drawOne b_G_drawOne 3 none 1 false := ⟨tbl_in (List.mem_of_getElem? (i := 797) (by decide +kernel)) rfl, tbl_in (List.mem_of_getElem? (i := 102) (by decide +kernel)) rfl, by decide +kernel, ⟨by decide +kernel, by decide +kernel, by decide +kernel⟩, ⟨tbl_in (List.mem_of_getElem? (i := 796) (by decide +kernel)) rfl, tbl_in (List.mem_of_getElem? (i := 35) (by decide +kernel)) rfl⟩⟩
theorem mx_G_changeLife : MX y_G_changeLife b_G_changeLife 3 none 2 false := ⟨tbl_in (List.mem_of_getElem? (i := 792) (by decide +kernel)) rfl, tbl_in (List.mem_of_getElem? (i := 102) (by decide +kernel)) rfl, by decide +kernel, ⟨by decide +kernel, by decide +kernel, by decide +kernel⟩, ⟨tbl_in (List.mem_of_getElem? (i := 791) (by decide +kernel)) rfl, tbl_in (List.mem_of_getElem? (i := 34) (by decide +kernel)) rfl⟩⟩
theorem mx_G_worthTo : MX y_G_worthTo b_G_worthTo 2 (some .int) 1 false := ⟨tbl_in (List.mem_of_getElem? (i := 913) (by decide +kernel)) rfl, tbl_in (List.mem_of_getElem? (i := 102) (by decide +kernel)) rfl, by decide +kernel, ⟨by decide +kernel, by decide +kernel, by decide +kernel⟩, ⟨tbl_in (List.mem_of_getElem? (i := 912) (by decide +kernel)) rfl, tbl_in (List.mem_of_getElem? (i := 53) (by decide +kernel)) rfl⟩⟩
theorem mx_G_lostBits : MX y_G_lostBits b_G_lostBits 1 (some .int) 0 false := ⟨tbl_in (List.mem_of_getElem? (i := 858) (by decide +kernel)) rfl, tbl_in (List.mem_of_getElem? (i := 102) (by decide +kernel)) rfl, by decide +kernel, ⟨by decide +kernel, by decide +kernel, by decide +kernel⟩, ⟨tbl_in (List.mem_of_getElem? (i := 857) (by decide +kernel)) rfl, tbl_in (List.mem_of_getElem? (i := 45) (by decide +kernel)) rfl⟩⟩
theorem mx_G_isQuiet : MX y_G_isQuiet b_G_isQuiet 1 (some .boolean) 0 false := ⟨tbl_in (List.mem_of_getElem? (i := 885) (by decide +kernel)) rfl, tbl_in (List.mem_of_getElem? (i := 102) (by decide +kernel)) rfl, by decide +kernel, ⟨by decide +kernel, by decide +kernel, by decide +kernel⟩, ⟨tbl_in (List.mem_of_getElem? (i := 884) (by decide +kernel)) rfl, tbl_in (List.mem_of_getElem? (i := 49) (by decide +kernel)) rfl⟩⟩
theorem mx_Y_workOut : MX y_Y_workOut b_Y_workOut 4 none 1 false := ⟨tbl_in (List.mem_of_getElem? (i := 644) (by decide +kernel)) rfl, tbl_in (List.mem_of_getElem? (i := 105) (by decide +kernel)) rfl, by decide +kernel, ⟨by decide +kernel, by decide +kernel, by decide +kernel⟩, ⟨tbl_in (List.mem_of_getElem? (i := 643) (by decide +kernel)) rfl, tbl_in (List.mem_of_getElem? (i := 13) (by decide +kernel)) rfl⟩⟩
theorem mx_Y_gather : MX y_Y_gather b_Y_gather 4 none 1 false := ⟨tbl_in (List.mem_of_getElem? (i := 657) (by decide +kernel)) rfl, tbl_in (List.mem_of_getElem? (i := 105) (by decide +kernel)) rfl, by decide +kernel, ⟨by decide +kernel, by decide +kernel, by decide +kernel⟩, ⟨tbl_in (List.mem_of_getElem? (i := 656) (by decide +kernel)) rfl, tbl_in (List.mem_of_getElem? (i := 14) (by decide +kernel)) rfl⟩⟩
theorem mx_Y_countOn : MX y_Y_countOn b_Y_countOn 4 none 2 false := ⟨tbl_in (List.mem_of_getElem? (i := 666) (by decide +kernel)) rfl, tbl_in (List.mem_of_getElem? (i := 105) (by decide +kernel)) rfl, by decide +kernel, ⟨by decide +kernel, by decide +kernel, by decide +kernel⟩, ⟨tbl_in (List.mem_of_getElem? (i := 665) (by decide +kernel)) rfl, tbl_in (List.mem_of_getElem? (i := 15) (by decide +kernel)) rfl⟩⟩
theorem mx_Y_takeNext : MX y_Y_takeNext b_Y_takeNext 4 (some .int) 0 false := ⟨tbl_in (List.mem_of_getElem? (i := 670) (by decide +kernel)) rfl, tbl_in (List.mem_of_getElem? (i := 105) (by decide +kernel)) rfl, by decide +kernel, ⟨by decide +kernel, by decide +kernel, by decide +kernel⟩, ⟨tbl_in (List.mem_of_getElem? (i := 669) (by decide +kernel)) rfl, tbl_in (List.mem_of_getElem? (i := 16) (by decide +kernel)) rfl⟩⟩
theorem mx_Y_waits : MX y_Y_waits b_Y_waits 4 (some .boolean) 1 false := ⟨tbl_in (List.mem_of_getElem? (i := 674) (by decide +kernel)) rfl, tbl_in (List.mem_of_getElem? (i := 105) (by decide +kernel)) rfl, by decide +kernel, ⟨by decide +kernel, by decide +kernel, by decide +kernel⟩, ⟨tbl_in (List.mem_of_getElem? (i := 673) (by decide +kernel)) rfl, tbl_in (List.mem_of_getElem? (i := 17) (by decide +kernel)) rfl⟩⟩
theorem mx_Y_use : MX y_Y_use b_Y_use 5 none 1 false := ⟨tbl_in (List.mem_of_getElem? (i := 681) (by decide +kernel)) rfl, tbl_in (List.mem_of_getElem? (i := 105) (by decide +kernel)) rfl, by decide +kernel, ⟨by decide +kernel, by decide +kernel, by decide +kernel⟩, ⟨tbl_in (List.mem_of_getElem? (i := 680) (by decide +kernel)) rfl, tbl_in (List.mem_of_getElem? (i := 18) (by decide +kernel)) rfl⟩⟩
theorem mx_O_empty : MX y_O_empty b_O_empty 1 none 0 false := ⟨tbl_in (List.mem_of_getElem? (i := 764) (by decide +kernel)) rfl, tbl_in (List.mem_of_getElem? (i := 107) (by decide +kernel)) rfl, by decide +kernel, ⟨by decide +kernel, by decide +kernel, by decide +kernel⟩, ⟨tbl_in (List.mem_of_getElem? (i := 763) (by decide +kernel)) rfl, tbl_in (List.mem_of_getElem? (i := 28) (by decide +kernel)) rfl⟩⟩
theorem mx_O_addThing : MX y_O_addThing b_O_addThing 2 none 1 false := ⟨tbl_in (List.mem_of_getElem? (i := 776) (by decide +kernel)) rfl, tbl_in (List.mem_of_getElem? (i := 107) (by decide +kernel)) rfl, by decide +kernel, ⟨by decide +kernel, by decide +kernel, by decide +kernel⟩, ⟨tbl_in (List.mem_of_getElem? (i := 775) (by decide +kernel)) rfl, tbl_in (List.mem_of_getElem? (i := 31) (by decide +kernel)) rfl⟩⟩
theorem mx_O_addEvent : MX y_O_addEvent b_O_addEvent 2 none 1 false := ⟨tbl_in (List.mem_of_getElem? (i := 788) (by decide +kernel)) rfl, tbl_in (List.mem_of_getElem? (i := 107) (by decide +kernel)) rfl, by decide +kernel, ⟨by decide +kernel, by decide +kernel, by decide +kernel⟩, ⟨tbl_in (List.mem_of_getElem? (i := 787) (by decide +kernel)) rfl, tbl_in (List.mem_of_getElem? (i := 33) (by decide +kernel)) rfl⟩⟩
theorem mx_P_keep : MX y_P_keep b_P_keep 7 none 2 false := ⟨tbl_in (List.mem_of_getElem? (i := 862) (by decide +kernel)) rfl, tbl_in (List.mem_of_getElem? (i := 104) (by decide +kernel)) rfl, by decide +kernel, ⟨by decide +kernel, by decide +kernel, by decide +kernel⟩, ⟨tbl_in (List.mem_of_getElem? (i := 861) (by decide +kernel)) rfl, tbl_in (List.mem_of_getElem? (i := 46) (by decide +kernel)) rfl⟩⟩
theorem mx_P_sameAs : MX y_P_sameAs b_P_sameAs 3 (some .int) 1 false := ⟨tbl_in (List.mem_of_getElem? (i := 868) (by decide +kernel)) rfl, tbl_in (List.mem_of_getElem? (i := 104) (by decide +kernel)) rfl, by decide +kernel, ⟨by decide +kernel, by decide +kernel, by decide +kernel⟩, ⟨tbl_in (List.mem_of_getElem? (i := 867) (by decide +kernel)) rfl, tbl_in (List.mem_of_getElem? (i := 47) (by decide +kernel)) rfl⟩⟩
theorem mx_P_samePiles : MX y_P_samePiles b_P_samePiles 7 (some .boolean) 2 false := ⟨tbl_in (List.mem_of_getElem? (i := 872) (by decide +kernel)) rfl, tbl_in (List.mem_of_getElem? (i := 104) (by decide +kernel)) rfl, by decide +kernel, ⟨by decide +kernel, by decide +kernel, by decide +kernel⟩, ⟨tbl_in (List.mem_of_getElem? (i := 871) (by decide +kernel)) rfl, tbl_in (List.mem_of_getElem? (i := 48) (by decide +kernel)) rfl⟩⟩
theorem mx_R_runPile : MX y_R_runPile b_R_runPile 4 none 2 false := ⟨tbl_in (List.mem_of_getElem? (i := 850) (by decide +kernel)) rfl, tbl_in (List.mem_of_getElem? (i := 103) (by decide +kernel)) rfl, by decide +kernel, ⟨by decide +kernel, by decide +kernel, by decide +kernel⟩, ⟨tbl_in (List.mem_of_getElem? (i := 849) (by decide +kernel)) rfl, tbl_in (List.mem_of_getElem? (i := 43) (by decide +kernel)) rfl⟩⟩
theorem mx_R_hasEnded : MX y_R_hasEnded b_R_hasEnded 2 (some .boolean) 1 false := ⟨tbl_in (List.mem_of_getElem? (i := 854) (by decide +kernel)) rfl, tbl_in (List.mem_of_getElem? (i := 103) (by decide +kernel)) rfl, by decide +kernel, ⟨by decide +kernel, by decide +kernel, by decide +kernel⟩, ⟨tbl_in (List.mem_of_getElem? (i := 853) (by decide +kernel)) rfl, tbl_in (List.mem_of_getElem? (i := 44) (by decide +kernel)) rfl⟩⟩
theorem mx_R_resolveTop : MX y_R_resolveTop b_R_resolveTop 5 none 2 false := ⟨tbl_in (List.mem_of_getElem? (i := 768) (by decide +kernel)) rfl, tbl_in (List.mem_of_getElem? (i := 103) (by decide +kernel)) rfl, by decide +kernel, ⟨by decide +kernel, by decide +kernel, by decide +kernel⟩, ⟨tbl_in (List.mem_of_getElem? (i := 767) (by decide +kernel)) rfl, tbl_in (List.mem_of_getElem? (i := 29) (by decide +kernel)) rfl⟩⟩
theorem mx_R_stopTop : MX y_R_stopTop b_R_stopTop 3 none 1 false := ⟨tbl_in (List.mem_of_getElem? (i := 828) (by decide +kernel)) rfl, tbl_in (List.mem_of_getElem? (i := 103) (by decide +kernel)) rfl, by decide +kernel, ⟨by decide +kernel, by decide +kernel, by decide +kernel⟩, ⟨tbl_in (List.mem_of_getElem? (i := 827) (by decide +kernel)) rfl, tbl_in (List.mem_of_getElem? (i := 39) (by decide +kernel)) rfl⟩⟩
theorem mx_R_clearYoungest : MX y_R_clearYoungest b_R_clearYoungest 5 none 2 false := ⟨tbl_in (List.mem_of_getElem? (i := 832) (by decide +kernel)) rfl, tbl_in (List.mem_of_getElem? (i := 103) (by decide +kernel)) rfl, by decide +kernel, ⟨by decide +kernel, by decide +kernel, by decide +kernel⟩, ⟨tbl_in (List.mem_of_getElem? (i := 831) (by decide +kernel)) rfl, tbl_in (List.mem_of_getElem? (i := 40) (by decide +kernel)) rfl⟩⟩
theorem mx_R_begin : MX y_R_begin b_R_begin 4 none 3 false := ⟨tbl_in (List.mem_of_getElem? (i := 841) (by decide +kernel)) rfl, tbl_in (List.mem_of_getElem? (i := 103) (by decide +kernel)) rfl, by decide +kernel, ⟨by decide +kernel, by decide +kernel, by decide +kernel⟩, ⟨tbl_in (List.mem_of_getElem? (i := 840) (by decide +kernel)) rfl, tbl_in (List.mem_of_getElem? (i := 42) (by decide +kernel)) rfl⟩⟩
theorem mx_R_happen : MX y_R_happen b_R_happen 4 none 2 false := ⟨tbl_in (List.mem_of_getElem? (i := 782) (by decide +kernel)) rfl, tbl_in (List.mem_of_getElem? (i := 103) (by decide +kernel)) rfl, by decide +kernel, ⟨by decide +kernel, by decide +kernel, by decide +kernel⟩, ⟨tbl_in (List.mem_of_getElem? (i := 781) (by decide +kernel)) rfl, tbl_in (List.mem_of_getElem? (i := 32) (by decide +kernel)) rfl⟩⟩
theorem mx_R_castShadows : MX y_R_castShadows b_R_castShadows 7 none 1 false := ⟨tbl_in (List.mem_of_getElem? (i := 814) (by decide +kernel)) rfl, tbl_in (List.mem_of_getElem? (i := 103) (by decide +kernel)) rfl, by decide +kernel, ⟨by decide +kernel, by decide +kernel, by decide +kernel⟩, ⟨tbl_in (List.mem_of_getElem? (i := 813) (by decide +kernel)) rfl, tbl_in (List.mem_of_getElem? (i := 37) (by decide +kernel)) rfl⟩⟩
theorem mx_R_takeTurn : MX y_R_takeTurn b_R_takeTurn 6 none 2 false := ⟨tbl_in (List.mem_of_getElem? (i := 890) (by decide +kernel)) rfl, tbl_in (List.mem_of_getElem? (i := 103) (by decide +kernel)) rfl, by decide +kernel, ⟨by decide +kernel, by decide +kernel, by decide +kernel⟩, ⟨tbl_in (List.mem_of_getElem? (i := 889) (by decide +kernel)) rfl, tbl_in (List.mem_of_getElem? (i := 50) (by decide +kernel)) rfl⟩⟩
theorem mx_T_append : MX y_T_append b_T_append 2 (some .boolean) 1 false := ⟨tbl_in (List.mem_of_getElem? (i := 511) (by decide +kernel)) rfl, tbl_in (List.mem_of_getElem? (i := 108) (by decide +kernel)) rfl, by decide +kernel, ⟨by decide +kernel, by decide +kernel, by decide +kernel⟩, ⟨tbl_in (List.mem_of_getElem? (i := 510) (by decide +kernel)) rfl, tbl_in (List.mem_of_getElem? (i := 2) (by decide +kernel)) rfl⟩⟩
theorem mx_T_readText : MX y_T_readText b_T_readText 2 (some .int) 0 false := ⟨tbl_in (List.mem_of_getElem? (i := 524) (by decide +kernel)) rfl, tbl_in (List.mem_of_getElem? (i := 108) (by decide +kernel)) rfl, by decide +kernel, ⟨by decide +kernel, by decide +kernel, by decide +kernel⟩, ⟨tbl_in (List.mem_of_getElem? (i := 523) (by decide +kernel)) rfl, tbl_in (List.mem_of_getElem? (i := 4) (by decide +kernel)) rfl⟩⟩
theorem mx_T_readLine : MX y_T_readLine b_T_readLine 7 (some .boolean) 0 false := ⟨tbl_in (List.mem_of_getElem? (i := 528) (by decide +kernel)) rfl, tbl_in (List.mem_of_getElem? (i := 108) (by decide +kernel)) rfl, by decide +kernel, ⟨by decide +kernel, by decide +kernel, by decide +kernel⟩, ⟨tbl_in (List.mem_of_getElem? (i := 527) (by decide +kernel)) rfl, tbl_in (List.mem_of_getElem? (i := 5) (by decide +kernel)) rfl⟩⟩
theorem mx_T_readWord : MX y_T_readWord b_T_readWord 4 (some .int) 0 false := ⟨tbl_in (List.mem_of_getElem? (i := 532) (by decide +kernel)) rfl, tbl_in (List.mem_of_getElem? (i := 108) (by decide +kernel)) rfl, by decide +kernel, ⟨by decide +kernel, by decide +kernel, by decide +kernel⟩, ⟨tbl_in (List.mem_of_getElem? (i := 531) (by decide +kernel)) rfl, tbl_in (List.mem_of_getElem? (i := 6) (by decide +kernel)) rfl⟩⟩
theorem mx_T_lettersAlike : MX y_T_lettersAlike b_T_lettersAlike 4 (some .int) 1 false := ⟨tbl_in (List.mem_of_getElem? (i := 536) (by decide +kernel)) rfl, tbl_in (List.mem_of_getElem? (i := 108) (by decide +kernel)) rfl, by decide +kernel, ⟨by decide +kernel, by decide +kernel, by decide +kernel⟩, ⟨tbl_in (List.mem_of_getElem? (i := 535) (by decide +kernel)) rfl, tbl_in (List.mem_of_getElem? (i := 7) (by decide +kernel)) rfl⟩⟩
theorem mx_T_readDigit : MX y_T_readDigit b_T_readDigit 3 (some .int) 1 false := ⟨tbl_in (List.mem_of_getElem? (i := 595) (by decide +kernel)) rfl, tbl_in (List.mem_of_getElem? (i := 108) (by decide +kernel)) rfl, by decide +kernel, ⟨by decide +kernel, by decide +kernel, by decide +kernel⟩, ⟨tbl_in (List.mem_of_getElem? (i := 594) (by decide +kernel)) rfl, tbl_in (List.mem_of_getElem? (i := 8) (by decide +kernel)) rfl⟩⟩
theorem mx_T_skip : MX y_T_skip b_T_skip 2 (some .boolean) 1 false := ⟨tbl_in (List.mem_of_getElem? (i := 599) (by decide +kernel)) rfl, tbl_in (List.mem_of_getElem? (i := 108) (by decide +kernel)) rfl, by decide +kernel, ⟨by decide +kernel, by decide +kernel, by decide +kernel⟩, ⟨tbl_in (List.mem_of_getElem? (i := 598) (by decide +kernel)) rfl, tbl_in (List.mem_of_getElem? (i := 9) (by decide +kernel)) rfl⟩⟩
theorem mx_L_card : MX y_L_card b_L_card 5 (some .int) 4 false := ⟨tbl_in (List.mem_of_getElem? (i := 485) (by decide +kernel)) rfl, tbl_in (List.mem_of_getElem? (i := 100) (by decide +kernel)) rfl, by decide +kernel, ⟨by decide +kernel, by decide +kernel, by decide +kernel⟩, ⟨tbl_in (List.mem_of_getElem? (i := 483) (by decide +kernel)) rfl, tbl_in (List.mem_of_getElem? (i := 484) (by decide +kernel)) rfl⟩⟩
theorem mx_L_feed : MX y_L_feed b_L_feed 2 (some .int) 1 false := ⟨tbl_in (List.mem_of_getElem? (i := 507) (by decide +kernel)) rfl, tbl_in (List.mem_of_getElem? (i := 100) (by decide +kernel)) rfl, by decide +kernel, ⟨by decide +kernel, by decide +kernel, by decide +kernel⟩, ⟨tbl_in (List.mem_of_getElem? (i := 505) (by decide +kernel)) rfl, tbl_in (List.mem_of_getElem? (i := 506) (by decide +kernel)) rfl⟩⟩
theorem mx_L_deck : MX y_L_deck b_L_deck 2 (some .int) 0 false := ⟨tbl_in (List.mem_of_getElem? (i := 516) (by decide +kernel)) rfl, tbl_in (List.mem_of_getElem? (i := 100) (by decide +kernel)) rfl, by decide +kernel, ⟨by decide +kernel, by decide +kernel, by decide +kernel⟩, ⟨tbl_in (List.mem_of_getElem? (i := 514) (by decide +kernel)) rfl, tbl_in (List.mem_of_getElem? (i := 515) (by decide +kernel)) rfl⟩⟩
theorem mx_L_deckOnTape : MX y_L_deckOnTape b_L_deckOnTape 3 (some .int) 0 false := ⟨tbl_in (List.mem_of_getElem? (i := 520) (by decide +kernel)) rfl, tbl_in (List.mem_of_getElem? (i := 100) (by decide +kernel)) rfl, by decide +kernel, ⟨by decide +kernel, by decide +kernel, by decide +kernel⟩, ⟨tbl_in (List.mem_of_getElem? (i := 519) (by decide +kernel)) rfl, tbl_in (List.mem_of_getElem? (i := 3) (by decide +kernel)) rfl⟩⟩
theorem mx_L_of : MX y_L_of b_L_of 3 (some .int) 2 false := ⟨tbl_in (List.mem_of_getElem? (i := 605) (by decide +kernel)) rfl, tbl_in (List.mem_of_getElem? (i := 100) (by decide +kernel)) rfl, by decide +kernel, ⟨by decide +kernel, by decide +kernel, by decide +kernel⟩, ⟨tbl_in (List.mem_of_getElem? (i := 603) (by decide +kernel)) rfl, tbl_in (List.mem_of_getElem? (i := 604) (by decide +kernel)) rfl⟩⟩
theorem mx_L_deal : MX y_L_deal b_L_deal 2 (some .int) 1 false := ⟨tbl_in (List.mem_of_getElem? (i := 613) (by decide +kernel)) rfl, tbl_in (List.mem_of_getElem? (i := 100) (by decide +kernel)) rfl, by decide +kernel, ⟨by decide +kernel, by decide +kernel, by decide +kernel⟩, ⟨tbl_in (List.mem_of_getElem? (i := 611) (by decide +kernel)) rfl, tbl_in (List.mem_of_getElem? (i := 612) (by decide +kernel)) rfl⟩⟩
theorem mx_L_base : MX y_L_base b_L_base 4 (some .int) 2 false := ⟨tbl_in (List.mem_of_getElem? (i := 621) (by decide +kernel)) rfl, tbl_in (List.mem_of_getElem? (i := 100) (by decide +kernel)) rfl, by decide +kernel, ⟨by decide +kernel, by decide +kernel, by decide +kernel⟩, ⟨tbl_in (List.mem_of_getElem? (i := 619) (by decide +kernel)) rfl, tbl_in (List.mem_of_getElem? (i := 620) (by decide +kernel)) rfl⟩⟩
theorem mx_L_mend : MX y_L_mend b_L_mend 4 (some .int) 2 false := ⟨tbl_in (List.mem_of_getElem? (i := 627) (by decide +kernel)) rfl, tbl_in (List.mem_of_getElem? (i := 100) (by decide +kernel)) rfl, by decide +kernel, ⟨by decide +kernel, by decide +kernel, by decide +kernel⟩, ⟨tbl_in (List.mem_of_getElem? (i := 625) (by decide +kernel)) rfl, tbl_in (List.mem_of_getElem? (i := 626) (by decide +kernel)) rfl⟩⟩
theorem mx_L_player : MX y_L_player b_L_player 3 (some .int) 2 false := ⟨tbl_in (List.mem_of_getElem? (i := 631) (by decide +kernel)) rfl, tbl_in (List.mem_of_getElem? (i := 100) (by decide +kernel)) rfl, by decide +kernel, ⟨by decide +kernel, by decide +kernel, by decide +kernel⟩, ⟨tbl_in (List.mem_of_getElem? (i := 629) (by decide +kernel)) rfl, tbl_in (List.mem_of_getElem? (i := 630) (by decide +kernel)) rfl⟩⟩
theorem mx_L_value : MX y_L_value b_L_value 2 (some .int) 1 false := ⟨tbl_in (List.mem_of_getElem? (i := 640) (by decide +kernel)) rfl, tbl_in (List.mem_of_getElem? (i := 100) (by decide +kernel)) rfl, by decide +kernel, ⟨by decide +kernel, by decide +kernel, by decide +kernel⟩, ⟨tbl_in (List.mem_of_getElem? (i := 638) (by decide +kernel)) rfl, tbl_in (List.mem_of_getElem? (i := 639) (by decide +kernel)) rfl⟩⟩
theorem mx_L_layer : MX y_L_layer b_L_layer 2 (some .int) 1 false := ⟨tbl_in (List.mem_of_getElem? (i := 691) (by decide +kernel)) rfl, tbl_in (List.mem_of_getElem? (i := 100) (by decide +kernel)) rfl, by decide +kernel, ⟨by decide +kernel, by decide +kernel, by decide +kernel⟩, ⟨tbl_in (List.mem_of_getElem? (i := 689) (by decide +kernel)) rfl, tbl_in (List.mem_of_getElem? (i := 690) (by decide +kernel)) rfl⟩⟩
theorem mx_L_depends : MX y_L_depends b_L_depends 3 (some .int) 2 false := ⟨tbl_in (List.mem_of_getElem? (i := 695) (by decide +kernel)) rfl, tbl_in (List.mem_of_getElem? (i := 100) (by decide +kernel)) rfl, by decide +kernel, ⟨by decide +kernel, by decide +kernel, by decide +kernel⟩, ⟨tbl_in (List.mem_of_getElem? (i := 693) (by decide +kernel)) rfl, tbl_in (List.mem_of_getElem? (i := 694) (by decide +kernel)) rfl⟩⟩
theorem mx_L_isLayerOnTable : MX y_L_isLayerOnTable b_L_isLayerOnTable 2 (some .boolean) 1 false := ⟨tbl_in (List.mem_of_getElem? (i := 699) (by decide +kernel)) rfl, tbl_in (List.mem_of_getElem? (i := 100) (by decide +kernel)) rfl, by decide +kernel, ⟨by decide +kernel, by decide +kernel, by decide +kernel⟩, ⟨tbl_in (List.mem_of_getElem? (i := 698) (by decide +kernel)) rfl, tbl_in (List.mem_of_getElem? (i := 19) (by decide +kernel)) rfl⟩⟩
theorem mx_L_used : MX y_L_used b_L_used 3 (some .int) 2 false := ⟨tbl_in (List.mem_of_getElem? (i := 705) (by decide +kernel)) rfl, tbl_in (List.mem_of_getElem? (i := 100) (by decide +kernel)) rfl, by decide +kernel, ⟨by decide +kernel, by decide +kernel, by decide +kernel⟩, ⟨tbl_in (List.mem_of_getElem? (i := 703) (by decide +kernel)) rfl, tbl_in (List.mem_of_getElem? (i := 704) (by decide +kernel)) rfl⟩⟩
theorem mx_L_play : MX y_L_play b_L_play 2 (some .int) 1 false := ⟨tbl_in (List.mem_of_getElem? (i := 743) (by decide +kernel)) rfl, tbl_in (List.mem_of_getElem? (i := 100) (by decide +kernel)) rfl, by decide +kernel, ⟨by decide +kernel, by decide +kernel, by decide +kernel⟩, ⟨tbl_in (List.mem_of_getElem? (i := 741) (by decide +kernel)) rfl, tbl_in (List.mem_of_getElem? (i := 742) (by decide +kernel)) rfl⟩⟩
theorem mx_L_pile : MX y_L_pile b_L_pile 2 (some .int) 1 false := ⟨tbl_in (List.mem_of_getElem? (i := 756) (by decide +kernel)) rfl, tbl_in (List.mem_of_getElem? (i := 100) (by decide +kernel)) rfl, by decide +kernel, ⟨by decide +kernel, by decide +kernel, by decide +kernel⟩, ⟨tbl_in (List.mem_of_getElem? (i := 754) (by decide +kernel)) rfl, tbl_in (List.mem_of_getElem? (i := 755) (by decide +kernel)) rfl⟩⟩
theorem mx_L_resolve : MX y_L_resolve b_L_resolve 1 (some .int) 0 false := ⟨tbl_in (List.mem_of_getElem? (i := 760) (by decide +kernel)) rfl, tbl_in (List.mem_of_getElem? (i := 100) (by decide +kernel)) rfl, by decide +kernel, ⟨by decide +kernel, by decide +kernel, by decide +kernel⟩, ⟨tbl_in (List.mem_of_getElem? (i := 758) (by decide +kernel)) rfl, tbl_in (List.mem_of_getElem? (i := 759) (by decide +kernel)) rfl⟩⟩
theorem mx_L_run : MX y_L_run b_L_run 1 (some .int) 0 false := ⟨tbl_in (List.mem_of_getElem? (i := 846) (by decide +kernel)) rfl, tbl_in (List.mem_of_getElem? (i := 100) (by decide +kernel)) rfl, by decide +kernel, ⟨by decide +kernel, by decide +kernel, by decide +kernel⟩, ⟨tbl_in (List.mem_of_getElem? (i := 844) (by decide +kernel)) rfl, tbl_in (List.mem_of_getElem? (i := 845) (by decide +kernel)) rfl⟩⟩
theorem mx_L_ended : MX y_L_ended b_L_ended 2 (some .int) 1 false := ⟨tbl_in (List.mem_of_getElem? (i := 877) (by decide +kernel)) rfl, tbl_in (List.mem_of_getElem? (i := 100) (by decide +kernel)) rfl, by decide +kernel, ⟨by decide +kernel, by decide +kernel, by decide +kernel⟩, ⟨tbl_in (List.mem_of_getElem? (i := 875) (by decide +kernel)) rfl, tbl_in (List.mem_of_getElem? (i := 876) (by decide +kernel)) rfl⟩⟩
theorem mx_L_turn : MX y_L_turn b_L_turn 1 (some .int) 0 false := ⟨tbl_in (List.mem_of_getElem? (i := 881) (by decide +kernel)) rfl, tbl_in (List.mem_of_getElem? (i := 100) (by decide +kernel)) rfl, by decide +kernel, ⟨by decide +kernel, by decide +kernel, by decide +kernel⟩, ⟨tbl_in (List.mem_of_getElem? (i := 879) (by decide +kernel)) rfl, tbl_in (List.mem_of_getElem? (i := 880) (by decide +kernel)) rfl⟩⟩
theorem mx_L_dry : MX y_L_dry b_L_dry 2 (some .int) 1 false := ⟨tbl_in (List.mem_of_getElem? (i := 896) (by decide +kernel)) rfl, tbl_in (List.mem_of_getElem? (i := 100) (by decide +kernel)) rfl, by decide +kernel, ⟨by decide +kernel, by decide +kernel, by decide +kernel⟩, ⟨tbl_in (List.mem_of_getElem? (i := 894) (by decide +kernel)) rfl, tbl_in (List.mem_of_getElem? (i := 895) (by decide +kernel)) rfl⟩⟩
theorem mx_L_worth : MX y_L_worth b_L_worth 2 (some .int) 1 false := ⟨tbl_in (List.mem_of_getElem? (i := 905) (by decide +kernel)) rfl, tbl_in (List.mem_of_getElem? (i := 100) (by decide +kernel)) rfl, by decide +kernel, ⟨by decide +kernel, by decide +kernel, by decide +kernel⟩, ⟨tbl_in (List.mem_of_getElem? (i := 903) (by decide +kernel)) rfl, tbl_in (List.mem_of_getElem? (i := 904) (by decide +kernel)) rfl⟩⟩
theorem mx_L_worthPlayed : MX y_L_worthPlayed b_L_worthPlayed 2 (some .int) 1 false := ⟨tbl_in (List.mem_of_getElem? (i := 909) (by decide +kernel)) rfl, tbl_in (List.mem_of_getElem? (i := 100) (by decide +kernel)) rfl, by decide +kernel, ⟨by decide +kernel, by decide +kernel, by decide +kernel⟩, ⟨tbl_in (List.mem_of_getElem? (i := 908) (by decide +kernel)) rfl, tbl_in (List.mem_of_getElem? (i := 52) (by decide +kernel)) rfl⟩⟩
theorem mx_L_best : MX y_L_best b_L_best 7 (some .int) 2 false := ⟨tbl_in (List.mem_of_getElem? (i := 917) (by decide +kernel)) rfl, tbl_in (List.mem_of_getElem? (i := 100) (by decide +kernel)) rfl, by decide +kernel, ⟨by decide +kernel, by decide +kernel, by decide +kernel⟩, ⟨tbl_in (List.mem_of_getElem? (i := 915) (by decide +kernel)) rfl, tbl_in (List.mem_of_getElem? (i := 916) (by decide +kernel)) rfl⟩⟩
theorem mx_L_byTurns : MX y_L_byTurns b_L_byTurns 2 (some .int) 1 false := ⟨tbl_in (List.mem_of_getElem? (i := 921) (by decide +kernel)) rfl, tbl_in (List.mem_of_getElem? (i := 100) (by decide +kernel)) rfl, by decide +kernel, ⟨by decide +kernel, by decide +kernel, by decide +kernel⟩, ⟨tbl_in (List.mem_of_getElem? (i := 919) (by decide +kernel)) rfl, tbl_in (List.mem_of_getElem? (i := 920) (by decide +kernel)) rfl⟩⟩
theorem mx_L_outcome : MX y_L_outcome b_L_outcome 13 (some .int) 5 true := ⟨tbl_in (List.mem_of_getElem? (i := 924) (by decide +kernel)) rfl, tbl_in (List.mem_of_getElem? (i := 100) (by decide +kernel)) rfl, by decide +kernel, ⟨by decide +kernel, by decide +kernel, by decide +kernel⟩, tbl_in (List.mem_of_getElem? (i := 923) (by decide +kernel)) rfl⟩
theorem mx_L_matter : MX y_L_matter b_L_matter 6 (some .int) 0 false := ⟨tbl_in (List.mem_of_getElem? (i := 929) (by decide +kernel)) rfl, tbl_in (List.mem_of_getElem? (i := 100) (by decide +kernel)) rfl, by decide +kernel, ⟨by decide +kernel, by decide +kernel, by decide +kernel⟩, ⟨tbl_in (List.mem_of_getElem? (i := 927) (by decide +kernel)) rfl, tbl_in (List.mem_of_getElem? (i := 928) (by decide +kernel)) rfl⟩⟩
theorem mx_L_runWithout : MX y_L_runWithout b_L_runWithout 2 none 1 false := ⟨tbl_in (List.mem_of_getElem? (i := 933) (by decide +kernel)) rfl, tbl_in (List.mem_of_getElem? (i := 100) (by decide +kernel)) rfl, by decide +kernel, ⟨by decide +kernel, by decide +kernel, by decide +kernel⟩, ⟨tbl_in (List.mem_of_getElem? (i := 932) (by decide +kernel)) rfl, tbl_in (List.mem_of_getElem? (i := 54) (by decide +kernel)) rfl⟩⟩
theorem mx_L_swing : MX y_L_swing b_L_swing 4 (some .int) 1 false := ⟨tbl_in (List.mem_of_getElem? (i := 938) (by decide +kernel)) rfl, tbl_in (List.mem_of_getElem? (i := 100) (by decide +kernel)) rfl, by decide +kernel, ⟨by decide +kernel, by decide +kernel, by decide +kernel⟩, ⟨tbl_in (List.mem_of_getElem? (i := 936) (by decide +kernel)) rfl, tbl_in (List.mem_of_getElem? (i := 937) (by decide +kernel)) rfl⟩⟩
theorem mx_L_next : MX y_L_next b_L_next 3 (some .int) 1 false := ⟨tbl_in (List.mem_of_getElem? (i := 942) (by decide +kernel)) rfl, tbl_in (List.mem_of_getElem? (i := 100) (by decide +kernel)) rfl, by decide +kernel, ⟨by decide +kernel, by decide +kernel, by decide +kernel⟩, ⟨tbl_in (List.mem_of_getElem? (i := 940) (by decide +kernel)) rfl, tbl_in (List.mem_of_getElem? (i := 941) (by decide +kernel)) rfl⟩⟩
theorem mx_L_ahead : MX y_L_ahead b_L_ahead 4 (some .int) 2 false := ⟨tbl_in (List.mem_of_getElem? (i := 948) (by decide +kernel)) rfl, tbl_in (List.mem_of_getElem? (i := 100) (by decide +kernel)) rfl, by decide +kernel, ⟨by decide +kernel, by decide +kernel, by decide +kernel⟩, ⟨tbl_in (List.mem_of_getElem? (i := 946) (by decide +kernel)) rfl, tbl_in (List.mem_of_getElem? (i := 947) (by decide +kernel)) rfl⟩⟩
theorem mx_L_trace : MX y_L_trace b_L_trace 3 (some .int) 2 false := ⟨tbl_in (List.mem_of_getElem? (i := 952) (by decide +kernel)) rfl, tbl_in (List.mem_of_getElem? (i := 100) (by decide +kernel)) rfl, by decide +kernel, ⟨by decide +kernel, by decide +kernel, by decide +kernel⟩, ⟨tbl_in (List.mem_of_getElem? (i := 950) (by decide +kernel)) rfl, tbl_in (List.mem_of_getElem? (i := 951) (by decide +kernel)) rfl⟩⟩
theorem mx_L_seed : MX y_L_seed b_L_seed 3 (some .int) 1 false := ⟨tbl_in (List.mem_of_getElem? (i := 956) (by decide +kernel)) rfl, tbl_in (List.mem_of_getElem? (i := 100) (by decide +kernel)) rfl, by decide +kernel, ⟨by decide +kernel, by decide +kernel, by decide +kernel⟩, ⟨tbl_in (List.mem_of_getElem? (i := 954) (by decide +kernel)) rfl, tbl_in (List.mem_of_getElem? (i := 955) (by decide +kernel)) rfl⟩⟩
theorem mx_L_image : MX y_L_image b_L_image 1 (some .int) 0 false := ⟨tbl_in (List.mem_of_getElem? (i := 960) (by decide +kernel)) rfl, tbl_in (List.mem_of_getElem? (i := 100) (by decide +kernel)) rfl, by decide +kernel, ⟨by decide +kernel, by decide +kernel, by decide +kernel⟩, ⟨tbl_in (List.mem_of_getElem? (i := 958) (by decide +kernel)) rfl, tbl_in (List.mem_of_getElem? (i := 959) (by decide +kernel)) rfl⟩⟩
theorem mx_L_back : MX y_L_back b_L_back 2 (some .int) 0 false := ⟨tbl_in (List.mem_of_getElem? (i := 964) (by decide +kernel)) rfl, tbl_in (List.mem_of_getElem? (i := 100) (by decide +kernel)) rfl, by decide +kernel, ⟨by decide +kernel, by decide +kernel, by decide +kernel⟩, ⟨tbl_in (List.mem_of_getElem? (i := 962) (by decide +kernel)) rfl, tbl_in (List.mem_of_getElem? (i := 963) (by decide +kernel)) rfl⟩⟩
theorem mx_L_hold : MX y_L_hold b_L_hold 3 (some .int) 2 false := ⟨tbl_in (List.mem_of_getElem? (i := 968) (by decide +kernel)) rfl, tbl_in (List.mem_of_getElem? (i := 100) (by decide +kernel)) rfl, by decide +kernel, ⟨by decide +kernel, by decide +kernel, by decide +kernel⟩, ⟨tbl_in (List.mem_of_getElem? (i := 966) (by decide +kernel)) rfl, tbl_in (List.mem_of_getElem? (i := 967) (by decide +kernel)) rfl⟩⟩
theorem mx_L_tells : MX y_L_tells b_L_tells 6 (some .int) 2 false := ⟨tbl_in (List.mem_of_getElem? (i := 972) (by decide +kernel)) rfl, tbl_in (List.mem_of_getElem? (i := 100) (by decide +kernel)) rfl, by decide +kernel, ⟨by decide +kernel, by decide +kernel, by decide +kernel⟩, ⟨tbl_in (List.mem_of_getElem? (i := 970) (by decide +kernel)) rfl, tbl_in (List.mem_of_getElem? (i := 971) (by decide +kernel)) rfl⟩⟩
theorem mx_L_count : MX y_L_count b_L_count 2 (some .int) 1 false := ⟨tbl_in (List.mem_of_getElem? (i := 978) (by decide +kernel)) rfl, tbl_in (List.mem_of_getElem? (i := 100) (by decide +kernel)) rfl, by decide +kernel, ⟨by decide +kernel, by decide +kernel, by decide +kernel⟩, ⟨tbl_in (List.mem_of_getElem? (i := 976) (by decide +kernel)) rfl, tbl_in (List.mem_of_getElem? (i := 977) (by decide +kernel)) rfl⟩⟩
theorem mx_L_at : MX y_L_at b_L_at 2 (some .int) 2 true := ⟨tbl_in (List.mem_of_getElem? (i := 588) (by decide +kernel)) rfl, tbl_in (List.mem_of_getElem? (i := 100) (by decide +kernel)) rfl, by decide +kernel, ⟨by decide +kernel, by decide +kernel, by decide +kernel⟩, tbl_in (List.mem_of_getElem? (i := 587) (by decide +kernel)) rfl⟩
theorem mx_L_put : MX y_L_put b_L_put 3 none 3 true := ⟨tbl_in (List.mem_of_getElem? (i := 502) (by decide +kernel)) rfl, tbl_in (List.mem_of_getElem? (i := 100) (by decide +kernel)) rfl, by decide +kernel, ⟨by decide +kernel, by decide +kernel, by decide +kernel⟩, tbl_in (List.mem_of_getElem? (i := 501) (by decide +kernel)) rfl⟩
theorem mx_L_copyRow : MX y_L_copyRow b_L_copyRow 2 none 2 true := ⟨tbl_in (List.mem_of_getElem? (i := 647) (by decide +kernel)) rfl, tbl_in (List.mem_of_getElem? (i := 100) (by decide +kernel)) rfl, by decide +kernel, ⟨by decide +kernel, by decide +kernel, by decide +kernel⟩, tbl_in (List.mem_of_getElem? (i := 646) (by decide +kernel)) rfl⟩
theorem mx_L_within : MX y_L_within b_L_within 3 (some .int) 3 true := ⟨tbl_in (List.mem_of_getElem? (i := 687) (by decide +kernel)) rfl, tbl_in (List.mem_of_getElem? (i := 100) (by decide +kernel)) rfl, by decide +kernel, ⟨by decide +kernel, by decide +kernel, by decide +kernel⟩, tbl_in (List.mem_of_getElem? (i := 686) (by decide +kernel)) rfl⟩
theorem mx_L_isPlayer : MX y_L_isPlayer b_L_isPlayer 1 (some .boolean) 1 true := ⟨tbl_in (List.mem_of_getElem? (i := 488) (by decide +kernel)) rfl, tbl_in (List.mem_of_getElem? (i := 100) (by decide +kernel)) rfl, by decide +kernel, ⟨by decide +kernel, by decide +kernel, by decide +kernel⟩, tbl_in (List.mem_of_getElem? (i := 487) (by decide +kernel)) rfl⟩
theorem mx_L_isPair : MX y_L_isPair b_L_isPair 1 (some .boolean) 1 true := ⟨tbl_in (List.mem_of_getElem? (i := 491) (by decide +kernel)) rfl, tbl_in (List.mem_of_getElem? (i := 100) (by decide +kernel)) rfl, by decide +kernel, ⟨by decide +kernel, by decide +kernel, by decide +kernel⟩, tbl_in (List.mem_of_getElem? (i := 490) (by decide +kernel)) rfl⟩
theorem mx_L_familyOf : MX y_L_familyOf b_L_familyOf 1 (some .int) 1 true := ⟨tbl_in (List.mem_of_getElem? (i := 661) (by decide +kernel)) rfl, tbl_in (List.mem_of_getElem? (i := 100) (by decide +kernel)) rfl, by decide +kernel, ⟨by decide +kernel, by decide +kernel, by decide +kernel⟩, tbl_in (List.mem_of_getElem? (i := 660) (by decide +kernel)) rfl⟩
theorem mx_L_looksAtOther : MX y_L_looksAtOther b_L_looksAtOther 1 (some .boolean) 1 true := ⟨tbl_in (List.mem_of_getElem? (i := 677) (by decide +kernel)) rfl, tbl_in (List.mem_of_getElem? (i := 100) (by decide +kernel)) rfl, by decide +kernel, ⟨by decide +kernel, by decide +kernel, by decide +kernel⟩, tbl_in (List.mem_of_getElem? (i := 676) (by decide +kernel)) rfl⟩
theorem mx_L_layered : MX y_L_layered b_L_layered 4 (some .int) 4 true := ⟨tbl_in (List.mem_of_getElem? (i := 684) (by decide +kernel)) rfl, tbl_in (List.mem_of_getElem? (i := 100) (by decide +kernel)) rfl, by decide +kernel, ⟨by decide +kernel, by decide +kernel, by decide +kernel⟩, tbl_in (List.mem_of_getElem? (i := 683) (by decide +kernel)) rfl⟩
theorem mx_L_replacedAmount : MX y_L_replacedAmount b_L_replacedAmount 3 (some .int) 3 true := ⟨tbl_in (List.mem_of_getElem? (i := 732) (by decide +kernel)) rfl, tbl_in (List.mem_of_getElem? (i := 100) (by decide +kernel)) rfl, by decide +kernel, ⟨by decide +kernel, by decide +kernel, by decide +kernel⟩, tbl_in (List.mem_of_getElem? (i := 731) (by decide +kernel)) rfl⟩
theorem mx_L_codeOf : MX y_L_codeOf b_L_codeOf 3 (some .int) 3 true := ⟨tbl_in (List.mem_of_getElem? (i := 739) (by decide +kernel)) rfl, tbl_in (List.mem_of_getElem? (i := 100) (by decide +kernel)) rfl, by decide +kernel, ⟨by decide +kernel, by decide +kernel, by decide +kernel⟩, tbl_in (List.mem_of_getElem? (i := 738) (by decide +kernel)) rfl⟩
theorem mx_L_seedAfter : MX y_L_seedAfter b_L_seedAfter 1 (some .int) 1 true := ⟨tbl_in (List.mem_of_getElem? (i := 802) (by decide +kernel)) rfl, tbl_in (List.mem_of_getElem? (i := 100) (by decide +kernel)) rfl, by decide +kernel, ⟨by decide +kernel, by decide +kernel, by decide +kernel⟩, tbl_in (List.mem_of_getElem? (i := 801) (by decide +kernel)) rfl⟩
theorem mx_L_drawnBelow : MX y_L_drawnBelow b_L_drawnBelow 2 (some .int) 2 true := ⟨tbl_in (List.mem_of_getElem? (i := 806) (by decide +kernel)) rfl, tbl_in (List.mem_of_getElem? (i := 100) (by decide +kernel)) rfl, by decide +kernel, ⟨by decide +kernel, by decide +kernel, by decide +kernel⟩, tbl_in (List.mem_of_getElem? (i := 805) (by decide +kernel)) rfl⟩
theorem mx_M_in : MX y_M_in b_M_in 3 (some .boolean) 3 true := ⟨tbl_in (List.mem_of_getElem? (i := 1100) (by decide +kernel)) rfl, tbl_in (List.mem_of_getElem? (i := 109) (by decide +kernel)) rfl, by decide +kernel, ⟨by decide +kernel, by decide +kernel, by decide +kernel⟩, tbl_in (List.mem_of_getElem? (i := 1099) (by decide +kernel)) rfl⟩
theorem mx_M_held : MX y_M_held b_M_held 3 (some .int) 3 true := ⟨tbl_in (List.mem_of_getElem? (i := 1232) (by decide +kernel)) rfl, tbl_in (List.mem_of_getElem? (i := 109) (by decide +kernel)) rfl, by decide +kernel, ⟨by decide +kernel, by decide +kernel, by decide +kernel⟩, tbl_in (List.mem_of_getElem? (i := 1231) (by decide +kernel)) rfl⟩
theorem mx_M_isCard : MX y_M_isCard b_M_isCard 2 (some .boolean) 1 false := ⟨tbl_in (List.mem_of_getElem? (i := 1168) (by decide +kernel)) rfl, tbl_in (List.mem_of_getElem? (i := 109) (by decide +kernel)) rfl, by decide +kernel, ⟨by decide +kernel, by decide +kernel, by decide +kernel⟩, ⟨tbl_in (List.mem_of_getElem? (i := 1167) (by decide +kernel)) rfl, tbl_in (List.mem_of_getElem? (i := 63) (by decide +kernel)) rfl⟩⟩
theorem mx_M_isAt : MX y_M_isAt b_M_isAt 3 (some .boolean) 2 false := ⟨tbl_in (List.mem_of_getElem? (i := 1172) (by decide +kernel)) rfl, tbl_in (List.mem_of_getElem? (i := 109) (by decide +kernel)) rfl, by decide +kernel, ⟨by decide +kernel, by decide +kernel, by decide +kernel⟩, ⟨tbl_in (List.mem_of_getElem? (i := 1171) (by decide +kernel)) rfl, tbl_in (List.mem_of_getElem? (i := 64) (by decide +kernel)) rfl⟩⟩
theorem mx_M_copy : MX y_M_copy b_M_copy 3 none 2 true := ⟨tbl_in (List.mem_of_getElem? (i := 1360) (by decide +kernel)) rfl, tbl_in (List.mem_of_getElem? (i := 109) (by decide +kernel)) rfl, by decide +kernel, ⟨by decide +kernel, by decide +kernel, by decide +kernel⟩, tbl_in (List.mem_of_getElem? (i := 1359) (by decide +kernel)) rfl⟩
theorem mx_M_add : MX y_M_add b_M_add 6 (some .int) 5 false := ⟨tbl_in (List.mem_of_getElem? (i := 1104) (by decide +kernel)) rfl, tbl_in (List.mem_of_getElem? (i := 109) (by decide +kernel)) rfl, by decide +kernel, ⟨by decide +kernel, by decide +kernel, by decide +kernel⟩, ⟨tbl_in (List.mem_of_getElem? (i := 1103) (by decide +kernel)) rfl, tbl_in (List.mem_of_getElem? (i := 55) (by decide +kernel)) rfl⟩⟩
theorem mx_M_card : MX y_M_card b_M_card 5 (some .int) 4 false := ⟨tbl_in (List.mem_of_getElem? (i := 1097) (by decide +kernel)) rfl, tbl_in (List.mem_of_getElem? (i := 109) (by decide +kernel)) rfl, by decide +kernel, ⟨by decide +kernel, by decide +kernel, by decide +kernel⟩, ⟨tbl_in (List.mem_of_getElem? (i := 1095) (by decide +kernel)) rfl, tbl_in (List.mem_of_getElem? (i := 1096) (by decide +kernel)) rfl⟩⟩
theorem mx_M_feed : MX y_M_feed b_M_feed 2 (some .int) 1 false := ⟨tbl_in (List.mem_of_getElem? (i := 1108) (by decide +kernel)) rfl, tbl_in (List.mem_of_getElem? (i := 109) (by decide +kernel)) rfl, by decide +kernel, ⟨by decide +kernel, by decide +kernel, by decide +kernel⟩, ⟨tbl_in (List.mem_of_getElem? (i := 1106) (by decide +kernel)) rfl, tbl_in (List.mem_of_getElem? (i := 1107) (by decide +kernel)) rfl⟩⟩
theorem mx_M_wordOf : MX y_M_wordOf b_M_wordOf 1 (some (.object "java/lang/String")) 1 true := ⟨tbl_in (List.mem_of_getElem? (i := 1127) (by decide +kernel)) rfl, tbl_in (List.mem_of_getElem? (i := 109) (by decide +kernel)) rfl, by decide +kernel, ⟨by decide +kernel, by decide +kernel, by decide +kernel⟩, tbl_in (List.mem_of_getElem? (i := 1126) (by decide +kernel)) rfl⟩
theorem mx_M_sees : MX y_M_sees b_M_sees 3 (some .boolean) 2 false := ⟨tbl_in (List.mem_of_getElem? (i := 1160) (by decide +kernel)) rfl, tbl_in (List.mem_of_getElem? (i := 109) (by decide +kernel)) rfl, by decide +kernel, ⟨by decide +kernel, by decide +kernel, by decide +kernel⟩, ⟨tbl_in (List.mem_of_getElem? (i := 1159) (by decide +kernel)) rfl, tbl_in (List.mem_of_getElem? (i := 62) (by decide +kernel)) rfl⟩⟩
theorem mx_M_must : MX y_M_must b_M_must 3 (some .int) 2 false := ⟨tbl_in (List.mem_of_getElem? (i := 1156) (by decide +kernel)) rfl, tbl_in (List.mem_of_getElem? (i := 109) (by decide +kernel)) rfl, by decide +kernel, ⟨by decide +kernel, by decide +kernel, by decide +kernel⟩, ⟨tbl_in (List.mem_of_getElem? (i := 1155) (by decide +kernel)) rfl, tbl_in (List.mem_of_getElem? (i := 61) (by decide +kernel)) rfl⟩⟩
theorem mx_M_goes : MX y_M_goes b_M_goes 3 (some .int) 1 false := ⟨tbl_in (List.mem_of_getElem? (i := 1146) (by decide +kernel)) rfl, tbl_in (List.mem_of_getElem? (i := 109) (by decide +kernel)) rfl, by decide +kernel, ⟨by decide +kernel, by decide +kernel, by decide +kernel⟩, ⟨tbl_in (List.mem_of_getElem? (i := 1145) (by decide +kernel)) rfl, tbl_in (List.mem_of_getElem? (i := 59) (by decide +kernel)) rfl⟩⟩
theorem mx_M_wordHere : MX y_M_wordHere b_M_wordHere 4 (some .int) 0 false := ⟨tbl_in (List.mem_of_getElem? (i := 1124) (by decide +kernel)) rfl, tbl_in (List.mem_of_getElem? (i := 109) (by decide +kernel)) rfl, by decide +kernel, ⟨by decide +kernel, by decide +kernel, by decide +kernel⟩, ⟨tbl_in (List.mem_of_getElem? (i := 1123) (by decide +kernel)) rfl, tbl_in (List.mem_of_getElem? (i := 58) (by decide +kernel)) rfl⟩⟩
theorem mx_M_digit : MX y_M_digit b_M_digit 2 (some .int) 1 false := ⟨tbl_in (List.mem_of_getElem? (i := 1152) (by decide +kernel)) rfl, tbl_in (List.mem_of_getElem? (i := 109) (by decide +kernel)) rfl, by decide +kernel, ⟨by decide +kernel, by decide +kernel, by decide +kernel⟩, ⟨tbl_in (List.mem_of_getElem? (i := 1151) (by decide +kernel)) rfl, tbl_in (List.mem_of_getElem? (i := 60) (by decide +kernel)) rfl⟩⟩
theorem mx_M_line : MX y_M_line b_M_line 8 none 1 false := ⟨tbl_in (List.mem_of_getElem? (i := 1120) (by decide +kernel)) rfl, tbl_in (List.mem_of_getElem? (i := 109) (by decide +kernel)) rfl, by decide +kernel, ⟨by decide +kernel, by decide +kernel, by decide +kernel⟩, ⟨tbl_in (List.mem_of_getElem? (i := 1119) (by decide +kernel)) rfl, tbl_in (List.mem_of_getElem? (i := 57) (by decide +kernel)) rfl⟩⟩
theorem mx_M_lines : MX y_M_lines b_M_lines 3 (some .int) 1 false := ⟨tbl_in (List.mem_of_getElem? (i := 1116) (by decide +kernel)) rfl, tbl_in (List.mem_of_getElem? (i := 109) (by decide +kernel)) rfl, by decide +kernel, ⟨by decide +kernel, by decide +kernel, by decide +kernel⟩, ⟨tbl_in (List.mem_of_getElem? (i := 1115) (by decide +kernel)) rfl, tbl_in (List.mem_of_getElem? (i := 56) (by decide +kernel)) rfl⟩⟩
theorem mx_M_deck : MX y_M_deck b_M_deck 4 (some .int) 0 false := ⟨tbl_in (List.mem_of_getElem? (i := 1112) (by decide +kernel)) rfl, tbl_in (List.mem_of_getElem? (i := 109) (by decide +kernel)) rfl, by decide +kernel, ⟨by decide +kernel, by decide +kernel, by decide +kernel⟩, ⟨tbl_in (List.mem_of_getElem? (i := 1110) (by decide +kernel)) rfl, tbl_in (List.mem_of_getElem? (i := 1111) (by decide +kernel)) rfl⟩⟩
theorem mx_M_of : MX y_M_of b_M_of 3 (some .int) 2 false := ⟨tbl_in (List.mem_of_getElem? (i := 1164) (by decide +kernel)) rfl, tbl_in (List.mem_of_getElem? (i := 109) (by decide +kernel)) rfl, by decide +kernel, ⟨by decide +kernel, by decide +kernel, by decide +kernel⟩, ⟨tbl_in (List.mem_of_getElem? (i := 1162) (by decide +kernel)) rfl, tbl_in (List.mem_of_getElem? (i := 1163) (by decide +kernel)) rfl⟩⟩
theorem mx_M_deal : MX y_M_deal b_M_deal 2 (some .int) 1 false := ⟨tbl_in (List.mem_of_getElem? (i := 1176) (by decide +kernel)) rfl, tbl_in (List.mem_of_getElem? (i := 109) (by decide +kernel)) rfl, by decide +kernel, ⟨by decide +kernel, by decide +kernel, by decide +kernel⟩, ⟨tbl_in (List.mem_of_getElem? (i := 1174) (by decide +kernel)) rfl, tbl_in (List.mem_of_getElem? (i := 1175) (by decide +kernel)) rfl⟩⟩
theorem mx_M_base : MX y_M_base b_M_base 4 (some .int) 2 false := ⟨tbl_in (List.mem_of_getElem? (i := 1180) (by decide +kernel)) rfl, tbl_in (List.mem_of_getElem? (i := 109) (by decide +kernel)) rfl, by decide +kernel, ⟨by decide +kernel, by decide +kernel, by decide +kernel⟩, ⟨tbl_in (List.mem_of_getElem? (i := 1178) (by decide +kernel)) rfl, tbl_in (List.mem_of_getElem? (i := 1179) (by decide +kernel)) rfl⟩⟩
theorem mx_M_mend : MX y_M_mend b_M_mend 4 (some .int) 2 false := ⟨tbl_in (List.mem_of_getElem? (i := 1185) (by decide +kernel)) rfl, tbl_in (List.mem_of_getElem? (i := 109) (by decide +kernel)) rfl, by decide +kernel, ⟨by decide +kernel, by decide +kernel, by decide +kernel⟩, ⟨tbl_in (List.mem_of_getElem? (i := 1183) (by decide +kernel)) rfl, tbl_in (List.mem_of_getElem? (i := 1184) (by decide +kernel)) rfl⟩⟩
theorem mx_M_manyAt : MX y_M_manyAt b_M_manyAt 5 (some .int) 2 false := ⟨tbl_in (List.mem_of_getElem? (i := 1193) (by decide +kernel)) rfl, tbl_in (List.mem_of_getElem? (i := 109) (by decide +kernel)) rfl, by decide +kernel, ⟨by decide +kernel, by decide +kernel, by decide +kernel⟩, ⟨tbl_in (List.mem_of_getElem? (i := 1192) (by decide +kernel)) rfl, tbl_in (List.mem_of_getElem? (i := 65) (by decide +kernel)) rfl⟩⟩
theorem mx_M_player : MX y_M_player b_M_player 3 (some .int) 2 false := ⟨tbl_in (List.mem_of_getElem? (i := 1189) (by decide +kernel)) rfl, tbl_in (List.mem_of_getElem? (i := 109) (by decide +kernel)) rfl, by decide +kernel, ⟨by decide +kernel, by decide +kernel, by decide +kernel⟩, ⟨tbl_in (List.mem_of_getElem? (i := 1187) (by decide +kernel)) rfl, tbl_in (List.mem_of_getElem? (i := 1188) (by decide +kernel)) rfl⟩⟩
theorem mx_M_isLayer : MX y_M_isLayer b_M_isLayer 2 (some .boolean) 1 false := ⟨tbl_in (List.mem_of_getElem? (i := 1213) (by decide +kernel)) rfl, tbl_in (List.mem_of_getElem? (i := 109) (by decide +kernel)) rfl, by decide +kernel, ⟨by decide +kernel, by decide +kernel, by decide +kernel⟩, ⟨tbl_in (List.mem_of_getElem? (i := 1212) (by decide +kernel)) rfl, tbl_in (List.mem_of_getElem? (i := 69) (by decide +kernel)) rfl⟩⟩
theorem mx_M_hangs : MX y_M_hangs b_M_hangs 3 (some .boolean) 2 false := ⟨tbl_in (List.mem_of_getElem? (i := 1225) (by decide +kernel)) rfl, tbl_in (List.mem_of_getElem? (i := 109) (by decide +kernel)) rfl, by decide +kernel, ⟨by decide +kernel, by decide +kernel, by decide +kernel⟩, ⟨tbl_in (List.mem_of_getElem? (i := 1224) (by decide +kernel)) rfl, tbl_in (List.mem_of_getElem? (i := 72) (by decide +kernel)) rfl⟩⟩
theorem mx_M_isUsed : MX y_M_isUsed b_M_isUsed 3 (some .boolean) 1 false := ⟨tbl_in (List.mem_of_getElem? (i := 1217) (by decide +kernel)) rfl, tbl_in (List.mem_of_getElem? (i := 109) (by decide +kernel)) rfl, by decide +kernel, ⟨by decide +kernel, by decide +kernel, by decide +kernel⟩, ⟨tbl_in (List.mem_of_getElem? (i := 1216) (by decide +kernel)) rfl, tbl_in (List.mem_of_getElem? (i := 70) (by decide +kernel)) rfl⟩⟩
theorem mx_M_isFree : MX y_M_isFree b_M_isFree 3 (some .boolean) 1 false := ⟨tbl_in (List.mem_of_getElem? (i := 1221) (by decide +kernel)) rfl, tbl_in (List.mem_of_getElem? (i := 109) (by decide +kernel)) rfl, by decide +kernel, ⟨by decide +kernel, by decide +kernel, by decide +kernel⟩, ⟨tbl_in (List.mem_of_getElem? (i := 1220) (by decide +kernel)) rfl, tbl_in (List.mem_of_getElem? (i := 71) (by decide +kernel)) rfl⟩⟩
theorem mx_M_nextLayer : MX y_M_nextLayer b_M_nextLayer 4 (some .int) 1 false := ⟨tbl_in (List.mem_of_getElem? (i := 1209) (by decide +kernel)) rfl, tbl_in (List.mem_of_getElem? (i := 109) (by decide +kernel)) rfl, by decide +kernel, ⟨by decide +kernel, by decide +kernel, by decide +kernel⟩, ⟨tbl_in (List.mem_of_getElem? (i := 1208) (by decide +kernel)) rfl, tbl_in (List.mem_of_getElem? (i := 68) (by decide +kernel)) rfl⟩⟩
theorem mx_M_use : MX y_M_use b_M_use 5 none 1 false := ⟨tbl_in (List.mem_of_getElem? (i := 1229) (by decide +kernel)) rfl, tbl_in (List.mem_of_getElem? (i := 109) (by decide +kernel)) rfl, by decide +kernel, ⟨by decide +kernel, by decide +kernel, by decide +kernel⟩, ⟨tbl_in (List.mem_of_getElem? (i := 1228) (by decide +kernel)) rfl, tbl_in (List.mem_of_getElem? (i := 73) (by decide +kernel)) rfl⟩⟩
theorem mx_M_layered : MX y_M_layered b_M_layered 2 none 0 false := ⟨tbl_in (List.mem_of_getElem? (i := 1205) (by decide +kernel)) rfl, tbl_in (List.mem_of_getElem? (i := 109) (by decide +kernel)) rfl, by decide +kernel, ⟨by decide +kernel, by decide +kernel, by decide +kernel⟩, ⟨tbl_in (List.mem_of_getElem? (i := 1204) (by decide +kernel)) rfl, tbl_in (List.mem_of_getElem? (i := 67) (by decide +kernel)) rfl⟩⟩
theorem mx_M_valueNow : MX y_M_valueNow b_M_valueNow 2 (some .int) 1 false := ⟨tbl_in (List.mem_of_getElem? (i := 1201) (by decide +kernel)) rfl, tbl_in (List.mem_of_getElem? (i := 109) (by decide +kernel)) rfl, by decide +kernel, ⟨by decide +kernel, by decide +kernel, by decide +kernel⟩, ⟨tbl_in (List.mem_of_getElem? (i := 1200) (by decide +kernel)) rfl, tbl_in (List.mem_of_getElem? (i := 66) (by decide +kernel)) rfl⟩⟩
theorem mx_M_value : MX y_M_value b_M_value 2 (some .int) 1 false := ⟨tbl_in (List.mem_of_getElem? (i := 1197) (by decide +kernel)) rfl, tbl_in (List.mem_of_getElem? (i := 109) (by decide +kernel)) rfl, by decide +kernel, ⟨by decide +kernel, by decide +kernel, by decide +kernel⟩, ⟨tbl_in (List.mem_of_getElem? (i := 1195) (by decide +kernel)) rfl, tbl_in (List.mem_of_getElem? (i := 1196) (by decide +kernel)) rfl⟩⟩
theorem mx_M_layer : MX y_M_layer b_M_layer 2 (some .int) 1 false := ⟨tbl_in (List.mem_of_getElem? (i := 1236) (by decide +kernel)) rfl, tbl_in (List.mem_of_getElem? (i := 109) (by decide +kernel)) rfl, by decide +kernel, ⟨by decide +kernel, by decide +kernel, by decide +kernel⟩, ⟨tbl_in (List.mem_of_getElem? (i := 1234) (by decide +kernel)) rfl, tbl_in (List.mem_of_getElem? (i := 1235) (by decide +kernel)) rfl⟩⟩
theorem mx_M_depends : MX y_M_depends b_M_depends 3 (some .int) 2 false := ⟨tbl_in (List.mem_of_getElem? (i := 1240) (by decide +kernel)) rfl, tbl_in (List.mem_of_getElem? (i := 109) (by decide +kernel)) rfl, by decide +kernel, ⟨by decide +kernel, by decide +kernel, by decide +kernel⟩, ⟨tbl_in (List.mem_of_getElem? (i := 1238) (by decide +kernel)) rfl, tbl_in (List.mem_of_getElem? (i := 1239) (by decide +kernel)) rfl⟩⟩
theorem mx_M_fits : MX y_M_fits b_M_fits 2 (some .boolean) 1 false := ⟨tbl_in (List.mem_of_getElem? (i := 1256) (by decide +kernel)) rfl, tbl_in (List.mem_of_getElem? (i := 109) (by decide +kernel)) rfl, by decide +kernel, ⟨by decide +kernel, by decide +kernel, by decide +kernel⟩, ⟨tbl_in (List.mem_of_getElem? (i := 1255) (by decide +kernel)) rfl, tbl_in (List.mem_of_getElem? (i := 76) (by decide +kernel)) rfl⟩⟩
theorem mx_M_wasUsed : MX y_M_wasUsed b_M_wasUsed 3 (some .boolean) 1 false := ⟨tbl_in (List.mem_of_getElem? (i := 1260) (by decide +kernel)) rfl, tbl_in (List.mem_of_getElem? (i := 109) (by decide +kernel)) rfl, by decide +kernel, ⟨by decide +kernel, by decide +kernel, by decide +kernel⟩, ⟨tbl_in (List.mem_of_getElem? (i := 1259) (by decide +kernel)) rfl, tbl_in (List.mem_of_getElem? (i := 77) (by decide +kernel)) rfl⟩⟩
theorem mx_M_nextReplacer : MX y_M_nextReplacer b_M_nextReplacer 3 (some .int) 0 false := ⟨tbl_in (List.mem_of_getElem? (i := 1252) (by decide +kernel)) rfl, tbl_in (List.mem_of_getElem? (i := 109) (by decide +kernel)) rfl, by decide +kernel, ⟨by decide +kernel, by decide +kernel, by decide +kernel⟩, ⟨tbl_in (List.mem_of_getElem? (i := 1251) (by decide +kernel)) rfl, tbl_in (List.mem_of_getElem? (i := 75) (by decide +kernel)) rfl⟩⟩
theorem mx_M_replaced : MX y_M_replaced b_M_replaced 5 none 3 false := ⟨tbl_in (List.mem_of_getElem? (i := 1248) (by decide +kernel)) rfl, tbl_in (List.mem_of_getElem? (i := 109) (by decide +kernel)) rfl, by decide +kernel, ⟨by decide +kernel, by decide +kernel, by decide +kernel⟩, ⟨tbl_in (List.mem_of_getElem? (i := 1247) (by decide +kernel)) rfl, tbl_in (List.mem_of_getElem? (i := 74) (by decide +kernel)) rfl⟩⟩
theorem mx_M_draw : MX y_M_draw b_M_draw 2 (some .int) 1 false := ⟨tbl_in (List.mem_of_getElem? (i := 1300) (by decide +kernel)) rfl, tbl_in (List.mem_of_getElem? (i := 109) (by decide +kernel)) rfl, by decide +kernel, ⟨by decide +kernel, by decide +kernel, by decide +kernel⟩, ⟨tbl_in (List.mem_of_getElem? (i := 1299) (by decide +kernel)) rfl, tbl_in (List.mem_of_getElem? (i := 84) (by decide +kernel)) rfl⟩⟩
theorem mx_M_drawOne : MX y_M_drawOne b_M_drawOne 4 none 0 false := ⟨tbl_in (List.mem_of_getElem? (i := 1296) (by decide +kernel)) rfl, tbl_in (List.mem_of_getElem? (i := 109) (by decide +kernel)) rfl, by decide +kernel, ⟨by decide +kernel, by decide +kernel, by decide +kernel⟩, ⟨tbl_in (List.mem_of_getElem? (i := 1295) (by decide +kernel)) rfl, tbl_in (List.mem_of_getElem? (i := 83) (by decide +kernel)) rfl⟩⟩
theorem mx_M_push : MX y_M_push b_M_push 2 none 1 false := ⟨tbl_in (List.mem_of_getElem? (i := 1272) (by decide +kernel)) rfl, tbl_in (List.mem_of_getElem? (i := 109) (by decide +kernel)) rfl, by decide +kernel, ⟨by decide +kernel, by decide +kernel, by decide +kernel⟩, ⟨tbl_in (List.mem_of_getElem? (i := 1271) (by decide +kernel)) rfl, tbl_in (List.mem_of_getElem? (i := 79) (by decide +kernel)) rfl⟩⟩
theorem mx_M_echoes : MX y_M_echoes b_M_echoes 5 none 0 false := ⟨tbl_in (List.mem_of_getElem? (i := 1305) (by decide +kernel)) rfl, tbl_in (List.mem_of_getElem? (i := 109) (by decide +kernel)) rfl, by decide +kernel, ⟨by decide +kernel, by decide +kernel, by decide +kernel⟩, ⟨tbl_in (List.mem_of_getElem? (i := 1304) (by decide +kernel)) rfl, tbl_in (List.mem_of_getElem? (i := 85) (by decide +kernel)) rfl⟩⟩
theorem mx_M_event : MX y_M_event b_M_event 5 none 3 false := ⟨tbl_in (List.mem_of_getElem? (i := 1292) (by decide +kernel)) rfl, tbl_in (List.mem_of_getElem? (i := 109) (by decide +kernel)) rfl, by decide +kernel, ⟨by decide +kernel, by decide +kernel, by decide +kernel⟩, ⟨tbl_in (List.mem_of_getElem? (i := 1291) (by decide +kernel)) rfl, tbl_in (List.mem_of_getElem? (i := 82) (by decide +kernel)) rfl⟩⟩
theorem mx_M_used : MX y_M_used b_M_used 3 (some .int) 2 false := ⟨tbl_in (List.mem_of_getElem? (i := 1244) (by decide +kernel)) rfl, tbl_in (List.mem_of_getElem? (i := 109) (by decide +kernel)) rfl, by decide +kernel, ⟨by decide +kernel, by decide +kernel, by decide +kernel⟩, ⟨tbl_in (List.mem_of_getElem? (i := 1242) (by decide +kernel)) rfl, tbl_in (List.mem_of_getElem? (i := 1243) (by decide +kernel)) rfl⟩⟩
theorem mx_M_play : MX y_M_play b_M_play 2 (some .int) 1 false := ⟨tbl_in (List.mem_of_getElem? (i := 1264) (by decide +kernel)) rfl, tbl_in (List.mem_of_getElem? (i := 109) (by decide +kernel)) rfl, by decide +kernel, ⟨by decide +kernel, by decide +kernel, by decide +kernel⟩, ⟨tbl_in (List.mem_of_getElem? (i := 1262) (by decide +kernel)) rfl, tbl_in (List.mem_of_getElem? (i := 1263) (by decide +kernel)) rfl⟩⟩
theorem mx_M_playIt : MX y_M_playIt b_M_playIt 2 none 1 false := ⟨tbl_in (List.mem_of_getElem? (i := 1268) (by decide +kernel)) rfl, tbl_in (List.mem_of_getElem? (i := 109) (by decide +kernel)) rfl, by decide +kernel, ⟨by decide +kernel, by decide +kernel, by decide +kernel⟩, ⟨tbl_in (List.mem_of_getElem? (i := 1267) (by decide +kernel)) rfl, tbl_in (List.mem_of_getElem? (i := 78) (by decide +kernel)) rfl⟩⟩
theorem mx_M_pile : MX y_M_pile b_M_pile 2 (some .int) 1 false := ⟨tbl_in (List.mem_of_getElem? (i := 1276) (by decide +kernel)) rfl, tbl_in (List.mem_of_getElem? (i := 109) (by decide +kernel)) rfl, by decide +kernel, ⟨by decide +kernel, by decide +kernel, by decide +kernel⟩, ⟨tbl_in (List.mem_of_getElem? (i := 1274) (by decide +kernel)) rfl, tbl_in (List.mem_of_getElem? (i := 1275) (by decide +kernel)) rfl⟩⟩
theorem mx_M_stop : MX y_M_stop b_M_stop 2 none 0 false := ⟨tbl_in (List.mem_of_getElem? (i := 1313) (by decide +kernel)) rfl, tbl_in (List.mem_of_getElem? (i := 109) (by decide +kernel)) rfl, by decide +kernel, ⟨by decide +kernel, by decide +kernel, by decide +kernel⟩, ⟨tbl_in (List.mem_of_getElem? (i := 1312) (by decide +kernel)) rfl, tbl_in (List.mem_of_getElem? (i := 87) (by decide +kernel)) rfl⟩⟩
theorem mx_M_clear : MX y_M_clear b_M_clear 4 none 1 false := ⟨tbl_in (List.mem_of_getElem? (i := 1317) (by decide +kernel)) rfl, tbl_in (List.mem_of_getElem? (i := 109) (by decide +kernel)) rfl, by decide +kernel, ⟨by decide +kernel, by decide +kernel, by decide +kernel⟩, ⟨tbl_in (List.mem_of_getElem? (i := 1316) (by decide +kernel)) rfl, tbl_in (List.mem_of_getElem? (i := 88) (by decide +kernel)) rfl⟩⟩
theorem mx_M_answer : MX y_M_answer b_M_answer 3 none 1 false := ⟨tbl_in (List.mem_of_getElem? (i := 1309) (by decide +kernel)) rfl, tbl_in (List.mem_of_getElem? (i := 109) (by decide +kernel)) rfl, by decide +kernel, ⟨by decide +kernel, by decide +kernel, by decide +kernel⟩, ⟨tbl_in (List.mem_of_getElem? (i := 1308) (by decide +kernel)) rfl, tbl_in (List.mem_of_getElem? (i := 86) (by decide +kernel)) rfl⟩⟩
theorem mx_M_resolveTop : MX y_M_resolveTop b_M_resolveTop 2 none 0 false := ⟨tbl_in (List.mem_of_getElem? (i := 1288) (by decide +kernel)) rfl, tbl_in (List.mem_of_getElem? (i := 109) (by decide +kernel)) rfl, by decide +kernel, ⟨by decide +kernel, by decide +kernel, by decide +kernel⟩, ⟨tbl_in (List.mem_of_getElem? (i := 1287) (by decide +kernel)) rfl, tbl_in (List.mem_of_getElem? (i := 81) (by decide +kernel)) rfl⟩⟩
theorem mx_M_traces : MX y_M_traces b_M_traces 1 none 0 false := ⟨tbl_in (List.mem_of_getElem? (i := 1284) (by decide +kernel)) rfl, tbl_in (List.mem_of_getElem? (i := 109) (by decide +kernel)) rfl, by decide +kernel, ⟨by decide +kernel, by decide +kernel, by decide +kernel⟩, ⟨tbl_in (List.mem_of_getElem? (i := 1283) (by decide +kernel)) rfl, tbl_in (List.mem_of_getElem? (i := 80) (by decide +kernel)) rfl⟩⟩
theorem mx_M_resolve : MX y_M_resolve b_M_resolve 1 (some .int) 0 false := ⟨tbl_in (List.mem_of_getElem? (i := 1280) (by decide +kernel)) rfl, tbl_in (List.mem_of_getElem? (i := 109) (by decide +kernel)) rfl, by decide +kernel, ⟨by decide +kernel, by decide +kernel, by decide +kernel⟩, ⟨tbl_in (List.mem_of_getElem? (i := 1278) (by decide +kernel)) rfl, tbl_in (List.mem_of_getElem? (i := 1279) (by decide +kernel)) rfl⟩⟩
theorem mx_M_isLost : MX y_M_isLost b_M_isLost 1 (some .boolean) 0 false := ⟨tbl_in (List.mem_of_getElem? (i := 1329) (by decide +kernel)) rfl, tbl_in (List.mem_of_getElem? (i := 109) (by decide +kernel)) rfl, by decide +kernel, ⟨by decide +kernel, by decide +kernel, by decide +kernel⟩, ⟨tbl_in (List.mem_of_getElem? (i := 1328) (by decide +kernel)) rfl, tbl_in (List.mem_of_getElem? (i := 90) (by decide +kernel)) rfl⟩⟩
theorem mx_M_see : MX y_M_see b_M_see 6 none 1 false := ⟨tbl_in (List.mem_of_getElem? (i := 1333) (by decide +kernel)) rfl, tbl_in (List.mem_of_getElem? (i := 109) (by decide +kernel)) rfl, by decide +kernel, ⟨by decide +kernel, by decide +kernel, by decide +kernel⟩, ⟨tbl_in (List.mem_of_getElem? (i := 1332) (by decide +kernel)) rfl, tbl_in (List.mem_of_getElem? (i := 91) (by decide +kernel)) rfl⟩⟩
theorem mx_M_sameAs : MX y_M_sameAs b_M_sameAs 5 (some .int) 1 false := ⟨tbl_in (List.mem_of_getElem? (i := 1337) (by decide +kernel)) rfl, tbl_in (List.mem_of_getElem? (i := 109) (by decide +kernel)) rfl, by decide +kernel, ⟨by decide +kernel, by decide +kernel, by decide +kernel⟩, ⟨tbl_in (List.mem_of_getElem? (i := 1336) (by decide +kernel)) rfl, tbl_in (List.mem_of_getElem? (i := 92) (by decide +kernel)) rfl⟩⟩
theorem mx_M_runIt : MX y_M_runIt b_M_runIt 3 (some .int) 0 false := ⟨tbl_in (List.mem_of_getElem? (i := 1325) (by decide +kernel)) rfl, tbl_in (List.mem_of_getElem? (i := 109) (by decide +kernel)) rfl, by decide +kernel, ⟨by decide +kernel, by decide +kernel, by decide +kernel⟩, ⟨tbl_in (List.mem_of_getElem? (i := 1324) (by decide +kernel)) rfl, tbl_in (List.mem_of_getElem? (i := 89) (by decide +kernel)) rfl⟩⟩
theorem mx_M_run : MX y_M_run b_M_run 2 (some .int) 0 false := ⟨tbl_in (List.mem_of_getElem? (i := 1321) (by decide +kernel)) rfl, tbl_in (List.mem_of_getElem? (i := 109) (by decide +kernel)) rfl, by decide +kernel, ⟨by decide +kernel, by decide +kernel, by decide +kernel⟩, ⟨tbl_in (List.mem_of_getElem? (i := 1319) (by decide +kernel)) rfl, tbl_in (List.mem_of_getElem? (i := 1320) (by decide +kernel)) rfl⟩⟩
theorem mx_M_ended : MX y_M_ended b_M_ended 2 (some .int) 1 false := ⟨tbl_in (List.mem_of_getElem? (i := 1341) (by decide +kernel)) rfl, tbl_in (List.mem_of_getElem? (i := 109) (by decide +kernel)) rfl, by decide +kernel, ⟨by decide +kernel, by decide +kernel, by decide +kernel⟩, ⟨tbl_in (List.mem_of_getElem? (i := 1339) (by decide +kernel)) rfl, tbl_in (List.mem_of_getElem? (i := 1340) (by decide +kernel)) rfl⟩⟩
theorem mx_M_greatestIn : MX y_M_greatestIn b_M_greatestIn 4 (some .int) 1 false := ⟨tbl_in (List.mem_of_getElem? (i := 1353) (by decide +kernel)) rfl, tbl_in (List.mem_of_getElem? (i := 109) (by decide +kernel)) rfl, by decide +kernel, ⟨by decide +kernel, by decide +kernel, by decide +kernel⟩, ⟨tbl_in (List.mem_of_getElem? (i := 1352) (by decide +kernel)) rfl, tbl_in (List.mem_of_getElem? (i := 94) (by decide +kernel)) rfl⟩⟩
theorem mx_M_turn : MX y_M_turn b_M_turn 1 (some .int) 0 false := ⟨tbl_in (List.mem_of_getElem? (i := 1345) (by decide +kernel)) rfl, tbl_in (List.mem_of_getElem? (i := 109) (by decide +kernel)) rfl, by decide +kernel, ⟨by decide +kernel, by decide +kernel, by decide +kernel⟩, ⟨tbl_in (List.mem_of_getElem? (i := 1343) (by decide +kernel)) rfl, tbl_in (List.mem_of_getElem? (i := 1344) (by decide +kernel)) rfl⟩⟩
theorem mx_M_turnIt : MX y_M_turnIt b_M_turnIt 2 none 0 false := ⟨tbl_in (List.mem_of_getElem? (i := 1349) (by decide +kernel)) rfl, tbl_in (List.mem_of_getElem? (i := 109) (by decide +kernel)) rfl, by decide +kernel, ⟨by decide +kernel, by decide +kernel, by decide +kernel⟩, ⟨tbl_in (List.mem_of_getElem? (i := 1348) (by decide +kernel)) rfl, tbl_in (List.mem_of_getElem? (i := 93) (by decide +kernel)) rfl⟩⟩
theorem mx_M_dry : MX y_M_dry b_M_dry 4 (some .int) 1 false := ⟨tbl_in (List.mem_of_getElem? (i := 1357) (by decide +kernel)) rfl, tbl_in (List.mem_of_getElem? (i := 109) (by decide +kernel)) rfl, by decide +kernel, ⟨by decide +kernel, by decide +kernel, by decide +kernel⟩, ⟨tbl_in (List.mem_of_getElem? (i := 1355) (by decide +kernel)) rfl, tbl_in (List.mem_of_getElem? (i := 1356) (by decide +kernel)) rfl⟩⟩
theorem mx_M_worthOf : MX y_M_worthOf b_M_worthOf 2 (some .int) 1 false := ⟨tbl_in (List.mem_of_getElem? (i := 1372) (by decide +kernel)) rfl, tbl_in (List.mem_of_getElem? (i := 109) (by decide +kernel)) rfl, by decide +kernel, ⟨by decide +kernel, by decide +kernel, by decide +kernel⟩, ⟨tbl_in (List.mem_of_getElem? (i := 1371) (by decide +kernel)) rfl, tbl_in (List.mem_of_getElem? (i := 96) (by decide +kernel)) rfl⟩⟩
theorem mx_M_worthIf : MX y_M_worthIf b_M_worthIf 4 (some .int) 2 false := ⟨tbl_in (List.mem_of_getElem? (i := 1368) (by decide +kernel)) rfl, tbl_in (List.mem_of_getElem? (i := 109) (by decide +kernel)) rfl, by decide +kernel, ⟨by decide +kernel, by decide +kernel, by decide +kernel⟩, ⟨tbl_in (List.mem_of_getElem? (i := 1367) (by decide +kernel)) rfl, tbl_in (List.mem_of_getElem? (i := 95) (by decide +kernel)) rfl⟩⟩
theorem mx_M_worth : MX y_M_worth b_M_worth 2 (some .int) 1 false := ⟨tbl_in (List.mem_of_getElem? (i := 1364) (by decide +kernel)) rfl, tbl_in (List.mem_of_getElem? (i := 109) (by decide +kernel)) rfl, by decide +kernel, ⟨by decide +kernel, by decide +kernel, by decide +kernel⟩, ⟨tbl_in (List.mem_of_getElem? (i := 1362) (by decide +kernel)) rfl, tbl_in (List.mem_of_getElem? (i := 1363) (by decide +kernel)) rfl⟩⟩
theorem mx_M_best : MX y_M_best b_M_best 7 (some .int) 2 false := ⟨tbl_in (List.mem_of_getElem? (i := 1376) (by decide +kernel)) rfl, tbl_in (List.mem_of_getElem? (i := 109) (by decide +kernel)) rfl, by decide +kernel, ⟨by decide +kernel, by decide +kernel, by decide +kernel⟩, ⟨tbl_in (List.mem_of_getElem? (i := 1374) (by decide +kernel)) rfl, tbl_in (List.mem_of_getElem? (i := 1375) (by decide +kernel)) rfl⟩⟩
theorem mx_M_reach : MX y_M_reach b_M_reach 9 (some .int) 4 false := ⟨tbl_in (List.mem_of_getElem? (i := 1404) (by decide +kernel)) rfl, tbl_in (List.mem_of_getElem? (i := 109) (by decide +kernel)) rfl, by decide +kernel, ⟨by decide +kernel, by decide +kernel, by decide +kernel⟩, ⟨tbl_in (List.mem_of_getElem? (i := 1403) (by decide +kernel)) rfl, tbl_in (List.mem_of_getElem? (i := 97) (by decide +kernel)) rfl⟩⟩
theorem mx_M_matter : MX y_M_matter b_M_matter 6 (some .int) 0 false := ⟨tbl_in (List.mem_of_getElem? (i := 1380) (by decide +kernel)) rfl, tbl_in (List.mem_of_getElem? (i := 109) (by decide +kernel)) rfl, by decide +kernel, ⟨by decide +kernel, by decide +kernel, by decide +kernel⟩, ⟨tbl_in (List.mem_of_getElem? (i := 1378) (by decide +kernel)) rfl, tbl_in (List.mem_of_getElem? (i := 1379) (by decide +kernel)) rfl⟩⟩
theorem mx_M_swing : MX y_M_swing b_M_swing 4 (some .int) 1 false := ⟨tbl_in (List.mem_of_getElem? (i := 1384) (by decide +kernel)) rfl, tbl_in (List.mem_of_getElem? (i := 109) (by decide +kernel)) rfl, by decide +kernel, ⟨by decide +kernel, by decide +kernel, by decide +kernel⟩, ⟨tbl_in (List.mem_of_getElem? (i := 1382) (by decide +kernel)) rfl, tbl_in (List.mem_of_getElem? (i := 1383) (by decide +kernel)) rfl⟩⟩
theorem mx_M_next : MX y_M_next b_M_next 7 (some .int) 1 false := ⟨tbl_in (List.mem_of_getElem? (i := 1388) (by decide +kernel)) rfl, tbl_in (List.mem_of_getElem? (i := 109) (by decide +kernel)) rfl, by decide +kernel, ⟨by decide +kernel, by decide +kernel, by decide +kernel⟩, ⟨tbl_in (List.mem_of_getElem? (i := 1386) (by decide +kernel)) rfl, tbl_in (List.mem_of_getElem? (i := 1387) (by decide +kernel)) rfl⟩⟩
theorem mx_M_ahead : MX y_M_ahead b_M_ahead 5 (some .int) 2 false := ⟨tbl_in (List.mem_of_getElem? (i := 1392) (by decide +kernel)) rfl, tbl_in (List.mem_of_getElem? (i := 109) (by decide +kernel)) rfl, by decide +kernel, ⟨by decide +kernel, by decide +kernel, by decide +kernel⟩, ⟨tbl_in (List.mem_of_getElem? (i := 1390) (by decide +kernel)) rfl, tbl_in (List.mem_of_getElem? (i := 1391) (by decide +kernel)) rfl⟩⟩
theorem mx_M_trace : MX y_M_trace b_M_trace 4 (some .int) 2 false := ⟨tbl_in (List.mem_of_getElem? (i := 1396) (by decide +kernel)) rfl, tbl_in (List.mem_of_getElem? (i := 109) (by decide +kernel)) rfl, by decide +kernel, ⟨by decide +kernel, by decide +kernel, by decide +kernel⟩, ⟨tbl_in (List.mem_of_getElem? (i := 1394) (by decide +kernel)) rfl, tbl_in (List.mem_of_getElem? (i := 1395) (by decide +kernel)) rfl⟩⟩
theorem mx_M_byTurns : MX y_M_byTurns b_M_byTurns 2 (some .int) 1 false := ⟨tbl_in (List.mem_of_getElem? (i := 1400) (by decide +kernel)) rfl, tbl_in (List.mem_of_getElem? (i := 109) (by decide +kernel)) rfl, by decide +kernel, ⟨by decide +kernel, by decide +kernel, by decide +kernel⟩, ⟨tbl_in (List.mem_of_getElem? (i := 1398) (by decide +kernel)) rfl, tbl_in (List.mem_of_getElem? (i := 1399) (by decide +kernel)) rfl⟩⟩
theorem mx_M_seed : MX y_M_seed b_M_seed 3 (some .int) 1 false := ⟨tbl_in (List.mem_of_getElem? (i := 1408) (by decide +kernel)) rfl, tbl_in (List.mem_of_getElem? (i := 109) (by decide +kernel)) rfl, by decide +kernel, ⟨by decide +kernel, by decide +kernel, by decide +kernel⟩, ⟨tbl_in (List.mem_of_getElem? (i := 1406) (by decide +kernel)) rfl, tbl_in (List.mem_of_getElem? (i := 1407) (by decide +kernel)) rfl⟩⟩
theorem mx_M_image : MX y_M_image b_M_image 1 (some .int) 0 false := ⟨tbl_in (List.mem_of_getElem? (i := 1412) (by decide +kernel)) rfl, tbl_in (List.mem_of_getElem? (i := 109) (by decide +kernel)) rfl, by decide +kernel, ⟨by decide +kernel, by decide +kernel, by decide +kernel⟩, ⟨tbl_in (List.mem_of_getElem? (i := 1410) (by decide +kernel)) rfl, tbl_in (List.mem_of_getElem? (i := 1411) (by decide +kernel)) rfl⟩⟩
theorem mx_M_back : MX y_M_back b_M_back 2 (some .int) 0 false := ⟨tbl_in (List.mem_of_getElem? (i := 1416) (by decide +kernel)) rfl, tbl_in (List.mem_of_getElem? (i := 109) (by decide +kernel)) rfl, by decide +kernel, ⟨by decide +kernel, by decide +kernel, by decide +kernel⟩, ⟨tbl_in (List.mem_of_getElem? (i := 1414) (by decide +kernel)) rfl, tbl_in (List.mem_of_getElem? (i := 1415) (by decide +kernel)) rfl⟩⟩
theorem mx_M_hold : MX y_M_hold b_M_hold 3 (some .int) 2 false := ⟨tbl_in (List.mem_of_getElem? (i := 1420) (by decide +kernel)) rfl, tbl_in (List.mem_of_getElem? (i := 109) (by decide +kernel)) rfl, by decide +kernel, ⟨by decide +kernel, by decide +kernel, by decide +kernel⟩, ⟨tbl_in (List.mem_of_getElem? (i := 1418) (by decide +kernel)) rfl, tbl_in (List.mem_of_getElem? (i := 1419) (by decide +kernel)) rfl⟩⟩
theorem mx_M_familyOf : MX y_M_familyOf b_M_familyOf 1 (some .int) 1 true := ⟨tbl_in (List.mem_of_getElem? (i := 1427) (by decide +kernel)) rfl, tbl_in (List.mem_of_getElem? (i := 109) (by decide +kernel)) rfl, by decide +kernel, ⟨by decide +kernel, by decide +kernel, by decide +kernel⟩, tbl_in (List.mem_of_getElem? (i := 1426) (by decide +kernel)) rfl⟩
theorem mx_M_toldBy : MX y_M_toldBy b_M_toldBy 3 (some .int) 1 false := ⟨tbl_in (List.mem_of_getElem? (i := 1431) (by decide +kernel)) rfl, tbl_in (List.mem_of_getElem? (i := 109) (by decide +kernel)) rfl, by decide +kernel, ⟨by decide +kernel, by decide +kernel, by decide +kernel⟩, ⟨tbl_in (List.mem_of_getElem? (i := 1430) (by decide +kernel)) rfl, tbl_in (List.mem_of_getElem? (i := 98) (by decide +kernel)) rfl⟩⟩
theorem mx_M_tells : MX y_M_tells b_M_tells 4 (some .int) 2 false := ⟨tbl_in (List.mem_of_getElem? (i := 1424) (by decide +kernel)) rfl, tbl_in (List.mem_of_getElem? (i := 109) (by decide +kernel)) rfl, by decide +kernel, ⟨by decide +kernel, by decide +kernel, by decide +kernel⟩, ⟨tbl_in (List.mem_of_getElem? (i := 1422) (by decide +kernel)) rfl, tbl_in (List.mem_of_getElem? (i := 1423) (by decide +kernel)) rfl⟩⟩
theorem mx_M_count : MX y_M_count b_M_count 2 (some .int) 1 false := ⟨tbl_in (List.mem_of_getElem? (i := 1435) (by decide +kernel)) rfl, tbl_in (List.mem_of_getElem? (i := 109) (by decide +kernel)) rfl, by decide +kernel, ⟨by decide +kernel, by decide +kernel, by decide +kernel⟩, ⟨tbl_in (List.mem_of_getElem? (i := 1433) (by decide +kernel)) rfl, tbl_in (List.mem_of_getElem? (i := 1434) (by decide +kernel)) rfl⟩⟩
theorem mw_L_91 : MW R_L 91 y_L_isPlayer := Or.inl (tbl_in (List.mem_of_getElem? (i := 486) (by decide +kernel)) rfl)
theorem mw_L_95 : MW R_L 95 y_L_isPair := Or.inl (tbl_in (List.mem_of_getElem? (i := 489) (by decide +kernel)) rfl)
theorem mw_L_101 : MW R_L 101 y_G_addCard := Or.inr ⟨"LayeredCards", nst_in (List.mem_of_getElem? (i := 492) (by decide +kernel)) rfl⟩
theorem mw_L_105 : MW R_L 105 y_T_append := Or.inr ⟨"LayeredCards", nst_in (List.mem_of_getElem? (i := 508) (by decide +kernel)) rfl⟩
theorem mw_L_111 : MW R_L 111 y_L_deckOnTape := Or.inl (tbl_in (List.mem_of_getElem? (i := 517) (by decide +kernel)) rfl)
theorem mw_L_115 : MW R_L 115 y_T_readText := Or.inr ⟨"LayeredCards", nst_in (List.mem_of_getElem? (i := 521) (by decide +kernel)) rfl⟩
theorem mw_L_124 : MW R_L 124 y_L_at := Or.inl (tbl_in (List.mem_of_getElem? (i := 600) (by decide +kernel)) rfl)
theorem mw_L_137 : MW R_L 137 y_G_has := Or.inr ⟨"LayeredCards", nst_in (List.mem_of_getElem? (i := 606) (by decide +kernel)) rfl⟩
theorem mw_L_155 : MW R_L 155 y_G_moveTo := Or.inr ⟨"LayeredCards", nst_in (List.mem_of_getElem? (i := 614) (by decide +kernel)) rfl⟩
theorem mw_L_163 : MW R_L 163 y_L_put := Or.inl (tbl_in (List.mem_of_getElem? (i := 623) (by decide +kernel)) rfl)
theorem mw_L_170 : MW R_L 170 y_G_countIn := Or.inr ⟨"LayeredCards", nst_in (List.mem_of_getElem? (i := 632) (by decide +kernel)) rfl⟩
theorem mw_L_174 : MW R_L 174 y_Y_workOut := Or.inr ⟨"LayeredCards", nst_in (List.mem_of_getElem? (i := 641) (by decide +kernel)) rfl⟩
theorem mw_L_187 : MW R_L 187 y_L_isLayerOnTable := Or.inl (tbl_in (List.mem_of_getElem? (i := 696) (by decide +kernel)) rfl)
theorem mw_L_190 : MW R_L 190 y_L_looksAtOther := Or.inl (tbl_in (List.mem_of_getElem? (i := 701) (by decide +kernel)) rfl)
theorem mw_L_193 : MW R_L 193 y_L_familyOf := Or.inl (tbl_in (List.mem_of_getElem? (i := 700) (by decide +kernel)) rfl)
theorem mw_L_197 : MW R_L 197 y_E_becomeTold := Or.inr ⟨"LayeredCards", nst_in (List.mem_of_getElem? (i := 706) (by decide +kernel)) rfl⟩
theorem mw_L_201 : MW R_L 201 y_E_replaceBy := Or.inr ⟨"LayeredCards", nst_in (List.mem_of_getElem? (i := 715) (by decide +kernel)) rfl⟩
theorem mw_L_204 : MW R_L 204 y_E_told := Or.inr ⟨"LayeredCards", nst_in (List.mem_of_getElem? (i := 733) (by decide +kernel)) rfl⟩
theorem mw_L_214 : MW R_L 214 y_G_playCard := Or.inr ⟨"LayeredCards", nst_in (List.mem_of_getElem? (i := 744) (by decide +kernel)) rfl⟩
theorem mw_L_220 : MW R_L 220 y_O_empty := Or.inr ⟨"LayeredCards", nst_in (List.mem_of_getElem? (i := 761) (by decide +kernel)) rfl⟩
theorem mw_L_223 : MW R_L 223 y_R_resolveTop := Or.inr ⟨"LayeredCards", nst_in (List.mem_of_getElem? (i := 765) (by decide +kernel)) rfl⟩
theorem mw_L_227 : MW R_L 227 y_R_runPile := Or.inr ⟨"LayeredCards", nst_in (List.mem_of_getElem? (i := 847) (by decide +kernel)) rfl⟩
theorem mw_L_242 : MW R_L 242 y_G_isQuiet := Or.inr ⟨"LayeredCards", nst_in (List.mem_of_getElem? (i := 882) (by decide +kernel)) rfl⟩
theorem mw_L_246 : MW R_L 246 y_R_takeTurn := Or.inr ⟨"LayeredCards", nst_in (List.mem_of_getElem? (i := 887) (by decide +kernel)) rfl⟩
theorem mw_L_252 : MW R_L 252 y_G_copyFrom := Or.inr ⟨"LayeredCards", nst_in (List.mem_of_getElem? (i := 897) (by decide +kernel)) rfl⟩
theorem mw_L_255 : MW R_L 255 y_L_worthPlayed := Or.inl (tbl_in (List.mem_of_getElem? (i := 906) (by decide +kernel)) rfl)
theorem mw_L_258 : MW R_L 258 y_G_worthTo := Or.inr ⟨"LayeredCards", nst_in (List.mem_of_getElem? (i := 910) (by decide +kernel)) rfl⟩
theorem mw_L_261 : MW R_L 261 y_L_outcome := Or.inl (tbl_in (List.mem_of_getElem? (i := 922) (by decide +kernel)) rfl)
theorem mw_L_265 : MW R_L 265 y_G_nthIn := Or.inr ⟨"LayeredCards", nst_in (List.mem_of_getElem? (i := 925) (by decide +kernel)) rfl⟩
theorem mw_L_269 : MW R_L 269 y_L_runWithout := Or.inl (tbl_in (List.mem_of_getElem? (i := 930) (by decide +kernel)) rfl)
theorem mw_L_272 : MW R_L 272 y_G_takeOff := Or.inr ⟨"LayeredCards", nst_in (List.mem_of_getElem? (i := 934) (by decide +kernel)) rfl⟩
theorem mw_L_278 : MW R_L 278 y_L_seedAfter := Or.inl (tbl_in (List.mem_of_getElem? (i := 943) (by decide +kernel)) rfl)
theorem mw_L_281 : MW R_L 281 y_L_drawnBelow := Or.inl (tbl_in (List.mem_of_getElem? (i := 944) (by decide +kernel)) rfl)
theorem mw_L_296 : MW R_L 296 y_L_layered := Or.inl (tbl_in (List.mem_of_getElem? (i := 973) (by decide +kernel)) rfl)
theorem mw_L_299 : MW R_L 299 y_L_replacedAmount := Or.inl (tbl_in (List.mem_of_getElem? (i := 974) (by decide +kernel)) rfl)
theorem mw_L_311 : MW R_L 311 y_G_lostBits := Or.inr ⟨"LayeredCards", nst_in (List.mem_of_getElem? (i := 979) (by decide +kernel)) rfl⟩
theorem mw_L_325 : MW R_L 325 y_L_within := Or.inl (tbl_in (List.mem_of_getElem? (i := 685) (by decide +kernel)) rfl)
theorem mw_K_27 : MW R_K 27 y_L_put := Or.inr ⟨"LayeredCards", nst_in (List.mem_of_getElem? (i := 500) (by decide +kernel)) rfl⟩
theorem mw_E_26 : MW R_E 26 y_L_within := Or.inr ⟨"LayeredCards", nst_in (List.mem_of_getElem? (i := 714) (by decide +kernel)) rfl⟩
theorem mw_E_39 : MW R_E 39 y_E_become := Or.inl (tbl_in (List.mem_of_getElem? (i := 710) (by decide +kernel)) rfl)
theorem mw_E_43 : MW R_E 43 y_L_codeOf := Or.inr ⟨"LayeredCards", nst_in (List.mem_of_getElem? (i := 737) (by decide +kernel)) rfl⟩
theorem mw_E_54 : MW R_E 54 y_L_at := Or.inr ⟨"LayeredCards", nst_in (List.mem_of_getElem? (i := 719) (by decide +kernel)) rfl⟩
theorem mw_E_58 : MW R_E 58 y_E_fits := Or.inl (tbl_in (List.mem_of_getElem? (i := 720) (by decide +kernel)) rfl)
theorem mw_E_62 : MW R_E 62 y_E_use := Or.inl (tbl_in (List.mem_of_getElem? (i := 725) (by decide +kernel)) rfl)
theorem mw_E_71 : MW R_E 71 y_L_familyOf := Or.inr ⟨"LayeredCards", nst_in (List.mem_of_getElem? (i := 724) (by decide +kernel)) rfl⟩
theorem mw_E_81 : MW R_E 81 y_L_put := Or.inr ⟨"LayeredCards", nst_in (List.mem_of_getElem? (i := 729) (by decide +kernel)) rfl⟩
theorem mw_E_88 : MW R_E 88 y_L_replacedAmount := Or.inr ⟨"LayeredCards", nst_in (List.mem_of_getElem? (i := 730) (by decide +kernel)) rfl⟩
theorem mw_G_38 : MW R_G 38 y_L_copyRow := Or.inr ⟨"LayeredCards", nst_in (List.mem_of_getElem? (i := 901) (by decide +kernel)) rfl⟩
theorem mw_G_63 : MW R_G 63 y_K_write := Or.inr ⟨"LayeredCards", nst_in (List.mem_of_getElem? (i := 496) (by decide +kernel)) rfl⟩
theorem mw_G_69 : MW R_G 69 y_L_put := Or.inr ⟨"LayeredCards", nst_in (List.mem_of_getElem? (i := 503) (by decide +kernel)) rfl⟩
theorem mw_G_73 : MW R_G 73 y_G_push := Or.inl (tbl_in (List.mem_of_getElem? (i := 748) (by decide +kernel)) rfl)
theorem mw_G_77 : MW R_G 77 y_G_moveTo := Or.inl (tbl_in (List.mem_of_getElem? (i := 752) (by decide +kernel)) rfl)
theorem mw_G_81 : MW R_G 81 y_L_at := Or.inr ⟨"LayeredCards", nst_in (List.mem_of_getElem? (i := 636) (by decide +kernel)) rfl⟩
theorem mw_G_88 : MW R_G 88 y_G_countIn := Or.inl (tbl_in (List.mem_of_getElem? (i := 798) (by decide +kernel)) rfl)
theorem mw_G_92 : MW R_G 92 y_G_changeLife := Or.inl (tbl_in (List.mem_of_getElem? (i := 799) (by decide +kernel)) rfl)
theorem mw_G_95 : MW R_G 95 y_L_seedAfter := Or.inr ⟨"LayeredCards", nst_in (List.mem_of_getElem? (i := 800) (by decide +kernel)) rfl⟩
theorem mw_G_99 : MW R_G 99 y_L_drawnBelow := Or.inr ⟨"LayeredCards", nst_in (List.mem_of_getElem? (i := 804) (by decide +kernel)) rfl⟩
theorem mw_G_102 : MW R_G 102 y_G_nthIn := Or.inl (tbl_in (List.mem_of_getElem? (i := 807) (by decide +kernel)) rfl)
theorem mw_G_106 : MW R_G 106 y_L_within := Or.inr ⟨"LayeredCards", nst_in (List.mem_of_getElem? (i := 793) (by decide +kernel)) rfl⟩
theorem mw_G_109 : MW R_G 109 y_G_lostBits := Or.inl (tbl_in (List.mem_of_getElem? (i := 886) (by decide +kernel)) rfl)
theorem mw_Y_33 : MW R_Y 33 y_L_copyRow := Or.inr ⟨"LayeredCards", nst_in (List.mem_of_getElem? (i := 645) (by decide +kernel)) rfl⟩
theorem mw_Y_37 : MW R_Y 37 y_Y_gather := Or.inl (tbl_in (List.mem_of_getElem? (i := 654) (by decide +kernel)) rfl)
theorem mw_Y_48 : MW R_Y 48 y_Y_takeNext := Or.inl (tbl_in (List.mem_of_getElem? (i := 667) (by decide +kernel)) rfl)
theorem mw_Y_52 : MW R_Y 52 y_L_put := Or.inr ⟨"LayeredCards", nst_in (List.mem_of_getElem? (i := 662) (by decide +kernel)) rfl⟩
theorem mw_Y_56 : MW R_Y 56 y_Y_use := Or.inl (tbl_in (List.mem_of_getElem? (i := 678) (by decide +kernel)) rfl)
theorem mw_Y_66 : MW R_Y 66 y_L_at := Or.inr ⟨"LayeredCards", nst_in (List.mem_of_getElem? (i := 658) (by decide +kernel)) rfl⟩
theorem mw_Y_75 : MW R_Y 75 y_L_familyOf := Or.inr ⟨"LayeredCards", nst_in (List.mem_of_getElem? (i := 659) (by decide +kernel)) rfl⟩
theorem mw_Y_79 : MW R_Y 79 y_Y_countOn := Or.inl (tbl_in (List.mem_of_getElem? (i := 663) (by decide +kernel)) rfl)
theorem mw_Y_86 : MW R_Y 86 y_Y_waits := Or.inl (tbl_in (List.mem_of_getElem? (i := 671) (by decide +kernel)) rfl)
theorem mw_Y_90 : MW R_Y 90 y_L_looksAtOther := Or.inr ⟨"LayeredCards", nst_in (List.mem_of_getElem? (i := 675) (by decide +kernel)) rfl⟩
theorem mw_Y_99 : MW R_Y 99 y_L_layered := Or.inr ⟨"LayeredCards", nst_in (List.mem_of_getElem? (i := 682) (by decide +kernel)) rfl⟩
theorem mw_O_25 : MW R_O 25 y_L_put := Or.inr ⟨"LayeredCards", nst_in (List.mem_of_getElem? (i := 777) (by decide +kernel)) rfl⟩
theorem mw_P_33 : MW R_P 33 y_L_put := Or.inr ⟨"LayeredCards", nst_in (List.mem_of_getElem? (i := 863) (by decide +kernel)) rfl⟩
theorem mw_P_40 : MW R_P 40 y_L_at := Or.inr ⟨"LayeredCards", nst_in (List.mem_of_getElem? (i := 864) (by decide +kernel)) rfl⟩
theorem mw_P_50 : MW R_P 50 y_P_samePiles := Or.inl (tbl_in (List.mem_of_getElem? (i := 869) (by decide +kernel)) rfl)
theorem mw_R_51 : MW R_R 51 y_R_hasEnded := Or.inl (tbl_in (List.mem_of_getElem? (i := 851) (by decide +kernel)) rfl)
theorem mw_R_55 : MW R_R 55 y_R_resolveTop := Or.inl (tbl_in (List.mem_of_getElem? (i := 873) (by decide +kernel)) rfl)
theorem mw_R_59 : MW R_R 59 y_G_lostBits := Or.inr ⟨"LayeredCards", nst_in (List.mem_of_getElem? (i := 855) (by decide +kernel)) rfl⟩
theorem mw_R_68 : MW R_R 68 y_P_keep := Or.inr ⟨"LayeredCards", nst_in (List.mem_of_getElem? (i := 859) (by decide +kernel)) rfl⟩
theorem mw_R_72 : MW R_R 72 y_P_sameAs := Or.inr ⟨"LayeredCards", nst_in (List.mem_of_getElem? (i := 865) (by decide +kernel)) rfl⟩
theorem mw_R_76 : MW R_R 76 y_G_pop := Or.inr ⟨"LayeredCards", nst_in (List.mem_of_getElem? (i := 769) (by decide +kernel)) rfl⟩
theorem mw_R_79 : MW R_R 79 y_O_addThing := Or.inr ⟨"LayeredCards", nst_in (List.mem_of_getElem? (i := 773) (by decide +kernel)) rfl⟩
theorem mw_R_85 : MW R_R 85 y_E_becomeTold := Or.inr ⟨"LayeredCards", nst_in (List.mem_of_getElem? (i := 778) (by decide +kernel)) rfl⟩
theorem mw_R_88 : MW R_R 88 y_R_happen := Or.inl (tbl_in (List.mem_of_getElem? (i := 779) (by decide +kernel)) rfl)
theorem mw_R_97 : MW R_R 97 y_L_at := Or.inr ⟨"LayeredCards", nst_in (List.mem_of_getElem? (i := 815) (by decide +kernel)) rfl⟩
theorem mw_R_101 : MW R_R 101 y_L_familyOf := Or.inr ⟨"LayeredCards", nst_in (List.mem_of_getElem? (i := 819) (by decide +kernel)) rfl⟩
theorem mw_R_104 : MW R_R 104 y_G_layDown := Or.inr ⟨"LayeredCards", nst_in (List.mem_of_getElem? (i := 820) (by decide +kernel)) rfl⟩
theorem mw_R_107 : MW R_R 107 y_G_moveTo := Or.inr ⟨"LayeredCards", nst_in (List.mem_of_getElem? (i := 824) (by decide +kernel)) rfl⟩
theorem mw_R_111 : MW R_R 111 y_R_stopTop := Or.inl (tbl_in (List.mem_of_getElem? (i := 825) (by decide +kernel)) rfl)
theorem mw_R_118 : MW R_R 118 y_R_clearYoungest := Or.inl (tbl_in (List.mem_of_getElem? (i := 829) (by decide +kernel)) rfl)
theorem mw_R_122 : MW R_R 122 y_Y_workOut := Or.inr ⟨"LayeredCards", nst_in (List.mem_of_getElem? (i := 837) (by decide +kernel)) rfl⟩
theorem mw_R_128 : MW R_R 128 y_R_begin := Or.inl (tbl_in (List.mem_of_getElem? (i := 838) (by decide +kernel)) rfl)
theorem mw_R_138 : MW R_R 138 y_G_takeOff := Or.inr ⟨"LayeredCards", nst_in (List.mem_of_getElem? (i := 833) (by decide +kernel)) rfl⟩
theorem mw_R_144 : MW R_R 144 y_E_become := Or.inr ⟨"LayeredCards", nst_in (List.mem_of_getElem? (i := 842) (by decide +kernel)) rfl⟩
theorem mw_R_147 : MW R_R 147 y_E_replaceBy := Or.inr ⟨"LayeredCards", nst_in (List.mem_of_getElem? (i := 783) (by decide +kernel)) rfl⟩
theorem mw_R_150 : MW R_R 150 y_E_told := Or.inr ⟨"LayeredCards", nst_in (List.mem_of_getElem? (i := 784) (by decide +kernel)) rfl⟩
theorem mw_R_153 : MW R_R 153 y_O_addEvent := Or.inr ⟨"LayeredCards", nst_in (List.mem_of_getElem? (i := 785) (by decide +kernel)) rfl⟩
theorem mw_R_165 : MW R_R 165 y_G_changeLife := Or.inr ⟨"LayeredCards", nst_in (List.mem_of_getElem? (i := 789) (by decide +kernel)) rfl⟩
theorem mw_R_168 : MW R_R 168 y_G_drawOne := Or.inr ⟨"LayeredCards", nst_in (List.mem_of_getElem? (i := 794) (by decide +kernel)) rfl⟩
theorem mw_R_171 : MW R_R 171 y_R_castShadows := Or.inl (tbl_in (List.mem_of_getElem? (i := 811) (by decide +kernel)) rfl)
theorem mw_R_186 : MW R_R 186 y_L_codeOf := Or.inr ⟨"LayeredCards", nst_in (List.mem_of_getElem? (i := 817) (by decide +kernel)) rfl⟩
theorem mw_R_190 : MW R_R 190 y_G_push := Or.inr ⟨"LayeredCards", nst_in (List.mem_of_getElem? (i := 818) (by decide +kernel)) rfl⟩
theorem mw_R_197 : MW R_R 197 y_G_countIn := Or.inr ⟨"LayeredCards", nst_in (List.mem_of_getElem? (i := 891) (by decide +kernel)) rfl⟩
theorem mw_R_200 : MW R_R 200 y_G_nthIn := Or.inr ⟨"LayeredCards", nst_in (List.mem_of_getElem? (i := 892) (by decide +kernel)) rfl⟩
theorem mw_T_31 : MW R_T 31 y_L_put := Or.inr ⟨"LayeredCards", nst_in (List.mem_of_getElem? (i := 512) (by decide +kernel)) rfl⟩
theorem mw_T_41 : MW R_T 41 y_T_readLine := Or.inl (tbl_in (List.mem_of_getElem? (i := 525) (by decide +kernel)) rfl)
theorem mw_T_45 : MW R_T 45 y_T_skip := Or.inl (tbl_in (List.mem_of_getElem? (i := 596) (by decide +kernel)) rfl)
theorem mw_T_49 : MW R_T 49 y_T_readWord := Or.inl (tbl_in (List.mem_of_getElem? (i := 529) (by decide +kernel)) rfl)
theorem mw_T_53 : MW R_T 53 y_T_readDigit := Or.inl (tbl_in (List.mem_of_getElem? (i := 592) (by decide +kernel)) rfl)
theorem mw_T_57 : MW R_T 57 y_T_lettersAlike := Or.inl (tbl_in (List.mem_of_getElem? (i := 533) (by decide +kernel)) rfl)
theorem mw_T_60 : MW R_T 60 y_L_at := Or.inr ⟨"LayeredCards", nst_in (List.mem_of_getElem? (i := 586) (by decide +kernel)) rfl⟩
theorem mw_W_13 : MW RW 13 y_L_card := Or.inl (tbl_in (List.mem_of_getElem? (i := 482) (by decide +kernel)) rfl)
theorem mw_W_17 : MW RW 17 y_M_card := Or.inl (tbl_in (List.mem_of_getElem? (i := 1094) (by decide +kernel)) rfl)
theorem mw_W_18 : MW RW 18 y_L_feed := Or.inl (tbl_in (List.mem_of_getElem? (i := 504) (by decide +kernel)) rfl)
theorem mw_W_22 : MW RW 22 y_M_feed := Or.inl (tbl_in (List.mem_of_getElem? (i := 1105) (by decide +kernel)) rfl)
theorem mw_W_23 : MW RW 23 y_L_deck := Or.inl (tbl_in (List.mem_of_getElem? (i := 513) (by decide +kernel)) rfl)
theorem mw_W_27 : MW RW 27 y_M_deck := Or.inl (tbl_in (List.mem_of_getElem? (i := 1109) (by decide +kernel)) rfl)
theorem mw_W_28 : MW RW 28 y_L_of := Or.inl (tbl_in (List.mem_of_getElem? (i := 602) (by decide +kernel)) rfl)
theorem mw_W_32 : MW RW 32 y_M_of := Or.inl (tbl_in (List.mem_of_getElem? (i := 1161) (by decide +kernel)) rfl)
theorem mw_W_33 : MW RW 33 y_L_deal := Or.inl (tbl_in (List.mem_of_getElem? (i := 610) (by decide +kernel)) rfl)
theorem mw_W_36 : MW RW 36 y_M_deal := Or.inl (tbl_in (List.mem_of_getElem? (i := 1173) (by decide +kernel)) rfl)
theorem mw_W_37 : MW RW 37 y_L_base := Or.inl (tbl_in (List.mem_of_getElem? (i := 618) (by decide +kernel)) rfl)
theorem mw_W_40 : MW RW 40 y_M_base := Or.inl (tbl_in (List.mem_of_getElem? (i := 1177) (by decide +kernel)) rfl)
theorem mw_W_41 : MW RW 41 y_L_mend := Or.inl (tbl_in (List.mem_of_getElem? (i := 624) (by decide +kernel)) rfl)
theorem mw_W_44 : MW RW 44 y_M_mend := Or.inl (tbl_in (List.mem_of_getElem? (i := 1182) (by decide +kernel)) rfl)
theorem mw_W_45 : MW RW 45 y_L_player := Or.inl (tbl_in (List.mem_of_getElem? (i := 628) (by decide +kernel)) rfl)
theorem mw_W_48 : MW RW 48 y_M_player := Or.inl (tbl_in (List.mem_of_getElem? (i := 1186) (by decide +kernel)) rfl)
theorem mw_W_49 : MW RW 49 y_L_value := Or.inl (tbl_in (List.mem_of_getElem? (i := 637) (by decide +kernel)) rfl)
theorem mw_W_52 : MW RW 52 y_M_value := Or.inl (tbl_in (List.mem_of_getElem? (i := 1194) (by decide +kernel)) rfl)
theorem mw_W_53 : MW RW 53 y_L_layer := Or.inl (tbl_in (List.mem_of_getElem? (i := 688) (by decide +kernel)) rfl)
theorem mw_W_56 : MW RW 56 y_M_layer := Or.inl (tbl_in (List.mem_of_getElem? (i := 1233) (by decide +kernel)) rfl)
theorem mw_W_57 : MW RW 57 y_L_depends := Or.inl (tbl_in (List.mem_of_getElem? (i := 692) (by decide +kernel)) rfl)
theorem mw_W_60 : MW RW 60 y_M_depends := Or.inl (tbl_in (List.mem_of_getElem? (i := 1237) (by decide +kernel)) rfl)
theorem mw_W_61 : MW RW 61 y_L_used := Or.inl (tbl_in (List.mem_of_getElem? (i := 702) (by decide +kernel)) rfl)
theorem mw_W_64 : MW RW 64 y_M_used := Or.inl (tbl_in (List.mem_of_getElem? (i := 1241) (by decide +kernel)) rfl)
theorem mw_W_65 : MW RW 65 y_L_play := Or.inl (tbl_in (List.mem_of_getElem? (i := 740) (by decide +kernel)) rfl)
theorem mw_W_68 : MW RW 68 y_M_play := Or.inl (tbl_in (List.mem_of_getElem? (i := 1261) (by decide +kernel)) rfl)
theorem mw_W_69 : MW RW 69 y_L_pile := Or.inl (tbl_in (List.mem_of_getElem? (i := 753) (by decide +kernel)) rfl)
theorem mw_W_72 : MW RW 72 y_M_pile := Or.inl (tbl_in (List.mem_of_getElem? (i := 1273) (by decide +kernel)) rfl)
theorem mw_W_73 : MW RW 73 y_L_resolve := Or.inl (tbl_in (List.mem_of_getElem? (i := 757) (by decide +kernel)) rfl)
theorem mw_W_76 : MW RW 76 y_M_resolve := Or.inl (tbl_in (List.mem_of_getElem? (i := 1277) (by decide +kernel)) rfl)
theorem mw_W_77 : MW RW 77 y_L_run := Or.inl (tbl_in (List.mem_of_getElem? (i := 843) (by decide +kernel)) rfl)
theorem mw_W_80 : MW RW 80 y_M_run := Or.inl (tbl_in (List.mem_of_getElem? (i := 1318) (by decide +kernel)) rfl)
theorem mw_W_81 : MW RW 81 y_L_ended := Or.inl (tbl_in (List.mem_of_getElem? (i := 874) (by decide +kernel)) rfl)
theorem mw_W_84 : MW RW 84 y_M_ended := Or.inl (tbl_in (List.mem_of_getElem? (i := 1338) (by decide +kernel)) rfl)
theorem mw_W_85 : MW RW 85 y_L_turn := Or.inl (tbl_in (List.mem_of_getElem? (i := 878) (by decide +kernel)) rfl)
theorem mw_W_88 : MW RW 88 y_M_turn := Or.inl (tbl_in (List.mem_of_getElem? (i := 1342) (by decide +kernel)) rfl)
theorem mw_W_89 : MW RW 89 y_L_dry := Or.inl (tbl_in (List.mem_of_getElem? (i := 893) (by decide +kernel)) rfl)
theorem mw_W_92 : MW RW 92 y_M_dry := Or.inl (tbl_in (List.mem_of_getElem? (i := 1354) (by decide +kernel)) rfl)
theorem mw_W_93 : MW RW 93 y_L_worth := Or.inl (tbl_in (List.mem_of_getElem? (i := 902) (by decide +kernel)) rfl)
theorem mw_W_96 : MW RW 96 y_M_worth := Or.inl (tbl_in (List.mem_of_getElem? (i := 1361) (by decide +kernel)) rfl)
theorem mw_W_97 : MW RW 97 y_L_best := Or.inl (tbl_in (List.mem_of_getElem? (i := 914) (by decide +kernel)) rfl)
theorem mw_W_100 : MW RW 100 y_M_best := Or.inl (tbl_in (List.mem_of_getElem? (i := 1373) (by decide +kernel)) rfl)
theorem mw_W_101 : MW RW 101 y_L_byTurns := Or.inl (tbl_in (List.mem_of_getElem? (i := 918) (by decide +kernel)) rfl)
theorem mw_W_104 : MW RW 104 y_M_byTurns := Or.inl (tbl_in (List.mem_of_getElem? (i := 1397) (by decide +kernel)) rfl)
theorem mw_W_105 : MW RW 105 y_L_matter := Or.inl (tbl_in (List.mem_of_getElem? (i := 926) (by decide +kernel)) rfl)
theorem mw_W_108 : MW RW 108 y_M_matter := Or.inl (tbl_in (List.mem_of_getElem? (i := 1377) (by decide +kernel)) rfl)
theorem mw_W_109 : MW RW 109 y_L_swing := Or.inl (tbl_in (List.mem_of_getElem? (i := 935) (by decide +kernel)) rfl)
theorem mw_W_112 : MW RW 112 y_M_swing := Or.inl (tbl_in (List.mem_of_getElem? (i := 1381) (by decide +kernel)) rfl)
theorem mw_W_113 : MW RW 113 y_L_next := Or.inl (tbl_in (List.mem_of_getElem? (i := 939) (by decide +kernel)) rfl)
theorem mw_W_116 : MW RW 116 y_M_next := Or.inl (tbl_in (List.mem_of_getElem? (i := 1385) (by decide +kernel)) rfl)
theorem mw_W_117 : MW RW 117 y_L_ahead := Or.inl (tbl_in (List.mem_of_getElem? (i := 945) (by decide +kernel)) rfl)
theorem mw_W_120 : MW RW 120 y_M_ahead := Or.inl (tbl_in (List.mem_of_getElem? (i := 1389) (by decide +kernel)) rfl)
theorem mw_W_121 : MW RW 121 y_L_trace := Or.inl (tbl_in (List.mem_of_getElem? (i := 949) (by decide +kernel)) rfl)
theorem mw_W_124 : MW RW 124 y_M_trace := Or.inl (tbl_in (List.mem_of_getElem? (i := 1393) (by decide +kernel)) rfl)
theorem mw_W_125 : MW RW 125 y_L_seed := Or.inl (tbl_in (List.mem_of_getElem? (i := 953) (by decide +kernel)) rfl)
theorem mw_W_128 : MW RW 128 y_M_seed := Or.inl (tbl_in (List.mem_of_getElem? (i := 1405) (by decide +kernel)) rfl)
theorem mw_W_129 : MW RW 129 y_L_image := Or.inl (tbl_in (List.mem_of_getElem? (i := 957) (by decide +kernel)) rfl)
theorem mw_W_132 : MW RW 132 y_M_image := Or.inl (tbl_in (List.mem_of_getElem? (i := 1409) (by decide +kernel)) rfl)
theorem mw_W_133 : MW RW 133 y_L_back := Or.inl (tbl_in (List.mem_of_getElem? (i := 961) (by decide +kernel)) rfl)
theorem mw_W_136 : MW RW 136 y_M_back := Or.inl (tbl_in (List.mem_of_getElem? (i := 1413) (by decide +kernel)) rfl)
theorem mw_W_137 : MW RW 137 y_L_hold := Or.inl (tbl_in (List.mem_of_getElem? (i := 965) (by decide +kernel)) rfl)
theorem mw_W_140 : MW RW 140 y_M_hold := Or.inl (tbl_in (List.mem_of_getElem? (i := 1417) (by decide +kernel)) rfl)
theorem mw_W_141 : MW RW 141 y_L_tells := Or.inl (tbl_in (List.mem_of_getElem? (i := 969) (by decide +kernel)) rfl)
theorem mw_W_144 : MW RW 144 y_M_tells := Or.inl (tbl_in (List.mem_of_getElem? (i := 1421) (by decide +kernel)) rfl)
theorem mw_W_145 : MW RW 145 y_L_count := Or.inl (tbl_in (List.mem_of_getElem? (i := 975) (by decide +kernel)) rfl)
theorem mw_W_148 : MW RW 148 y_M_count := Or.inl (tbl_in (List.mem_of_getElem? (i := 1432) (by decide +kernel)) rfl)
theorem mw_M_73 : MW R_M 73 y_M_in := Or.inl (tbl_in (List.mem_of_getElem? (i := 1098) (by decide +kernel)) rfl)
theorem mw_M_77 : MW R_M 77 y_M_add := Or.inl (tbl_in (List.mem_of_getElem? (i := 1101) (by decide +kernel)) rfl)
theorem mw_M_119 : MW R_M 119 y_M_sees := Or.inl (tbl_in (List.mem_of_getElem? (i := 1157) (by decide +kernel)) rfl)
theorem mw_M_133 : MW R_M 133 y_M_wordOf := Or.inl (tbl_in (List.mem_of_getElem? (i := 1125) (by decide +kernel)) rfl)
theorem mw_M_137 : MW R_M 137 y_M_goes := Or.inl (tbl_in (List.mem_of_getElem? (i := 1143) (by decide +kernel)) rfl)
theorem mw_M_141 : MW R_M 141 y_M_must := Or.inl (tbl_in (List.mem_of_getElem? (i := 1153) (by decide +kernel)) rfl)
theorem mw_M_145 : MW R_M 145 y_M_wordHere := Or.inl (tbl_in (List.mem_of_getElem? (i := 1121) (by decide +kernel)) rfl)
theorem mw_M_148 : MW R_M 148 y_M_digit := Or.inl (tbl_in (List.mem_of_getElem? (i := 1149) (by decide +kernel)) rfl)
theorem mw_M_152 : MW R_M 152 y_M_line := Or.inl (tbl_in (List.mem_of_getElem? (i := 1117) (by decide +kernel)) rfl)
theorem mw_M_156 : MW R_M 156 y_M_lines := Or.inl (tbl_in (List.mem_of_getElem? (i := 1113) (by decide +kernel)) rfl)
theorem mw_M_160 : MW R_M 160 y_M_isCard := Or.inl (tbl_in (List.mem_of_getElem? (i := 1165) (by decide +kernel)) rfl)
theorem mw_M_164 : MW R_M 164 y_M_isAt := Or.inl (tbl_in (List.mem_of_getElem? (i := 1169) (by decide +kernel)) rfl)
theorem mw_M_168 : MW R_M 168 y_M_manyAt := Or.inl (tbl_in (List.mem_of_getElem? (i := 1190) (by decide +kernel)) rfl)
theorem mw_M_174 : MW R_M 174 y_M_isLayer := Or.inl (tbl_in (List.mem_of_getElem? (i := 1210) (by decide +kernel)) rfl)
theorem mw_M_177 : MW R_M 177 y_M_isUsed := Or.inl (tbl_in (List.mem_of_getElem? (i := 1214) (by decide +kernel)) rfl)
theorem mw_M_180 : MW R_M 180 y_M_hangs := Or.inl (tbl_in (List.mem_of_getElem? (i := 1222) (by decide +kernel)) rfl)
theorem mw_M_183 : MW R_M 183 y_M_isFree := Or.inl (tbl_in (List.mem_of_getElem? (i := 1218) (by decide +kernel)) rfl)
theorem mw_M_186 : MW R_M 186 y_M_held := Or.inl (tbl_in (List.mem_of_getElem? (i := 1230) (by decide +kernel)) rfl)
theorem mw_M_189 : MW R_M 189 y_M_nextLayer := Or.inl (tbl_in (List.mem_of_getElem? (i := 1206) (by decide +kernel)) rfl)
theorem mw_M_192 : MW R_M 192 y_M_use := Or.inl (tbl_in (List.mem_of_getElem? (i := 1226) (by decide +kernel)) rfl)
theorem mw_M_196 : MW R_M 196 y_M_layered := Or.inl (tbl_in (List.mem_of_getElem? (i := 1202) (by decide +kernel)) rfl)
theorem mw_M_199 : MW R_M 199 y_M_valueNow := Or.inl (tbl_in (List.mem_of_getElem? (i := 1198) (by decide +kernel)) rfl)
theorem mw_M_211 : MW R_M 211 y_M_fits := Or.inl (tbl_in (List.mem_of_getElem? (i := 1253) (by decide +kernel)) rfl)
theorem mw_M_214 : MW R_M 214 y_M_wasUsed := Or.inl (tbl_in (List.mem_of_getElem? (i := 1257) (by decide +kernel)) rfl)
theorem mw_M_220 : MW R_M 220 y_M_nextReplacer := Or.inl (tbl_in (List.mem_of_getElem? (i := 1249) (by decide +kernel)) rfl)
theorem mw_M_224 : MW R_M 224 y_M_draw := Or.inl (tbl_in (List.mem_of_getElem? (i := 1297) (by decide +kernel)) rfl)
theorem mw_M_227 : MW R_M 227 y_M_push := Or.inl (tbl_in (List.mem_of_getElem? (i := 1269) (by decide +kernel)) rfl)
theorem mw_M_230 : MW R_M 230 y_M_replaced := Or.inl (tbl_in (List.mem_of_getElem? (i := 1245) (by decide +kernel)) rfl)
theorem mw_M_241 : MW R_M 241 y_M_drawOne := Or.inl (tbl_in (List.mem_of_getElem? (i := 1293) (by decide +kernel)) rfl)
theorem mw_M_244 : MW R_M 244 y_M_echoes := Or.inl (tbl_in (List.mem_of_getElem? (i := 1302) (by decide +kernel)) rfl)
theorem mw_M_247 : MW R_M 247 y_M_playIt := Or.inl (tbl_in (List.mem_of_getElem? (i := 1265) (by decide +kernel)) rfl)
theorem mw_M_250 : MW R_M 250 y_M_event := Or.inl (tbl_in (List.mem_of_getElem? (i := 1289) (by decide +kernel)) rfl)
theorem mw_M_253 : MW R_M 253 y_M_stop := Or.inl (tbl_in (List.mem_of_getElem? (i := 1310) (by decide +kernel)) rfl)
theorem mw_M_255 : MW R_M 255 y_M_clear := Or.inl (tbl_in (List.mem_of_getElem? (i := 1314) (by decide +kernel)) rfl)
theorem mw_M_260 : MW R_M 260 y_M_answer := Or.inl (tbl_in (List.mem_of_getElem? (i := 1306) (by decide +kernel)) rfl)
theorem mw_M_263 : MW R_M 263 y_M_traces := Or.inl (tbl_in (List.mem_of_getElem? (i := 1281) (by decide +kernel)) rfl)
theorem mw_M_266 : MW R_M 266 y_M_resolveTop := Or.inl (tbl_in (List.mem_of_getElem? (i := 1285) (by decide +kernel)) rfl)
theorem mw_M_275 : MW R_M 275 y_M_isLost := Or.inl (tbl_in (List.mem_of_getElem? (i := 1326) (by decide +kernel)) rfl)
theorem mw_M_282 : MW R_M 282 y_M_see := Or.inl (tbl_in (List.mem_of_getElem? (i := 1330) (by decide +kernel)) rfl)
theorem mw_M_285 : MW R_M 285 y_M_sameAs := Or.inl (tbl_in (List.mem_of_getElem? (i := 1334) (by decide +kernel)) rfl)
theorem mw_M_288 : MW R_M 288 y_M_runIt := Or.inl (tbl_in (List.mem_of_getElem? (i := 1322) (by decide +kernel)) rfl)
theorem mw_M_294 : MW R_M 294 y_M_turnIt := Or.inl (tbl_in (List.mem_of_getElem? (i := 1346) (by decide +kernel)) rfl)
theorem mw_M_297 : MW R_M 297 y_M_greatestIn := Or.inl (tbl_in (List.mem_of_getElem? (i := 1350) (by decide +kernel)) rfl)
theorem mw_M_300 : MW R_M 300 y_M_copy := Or.inl (tbl_in (List.mem_of_getElem? (i := 1358) (by decide +kernel)) rfl)
theorem mw_M_304 : MW R_M 304 y_M_worthOf := Or.inl (tbl_in (List.mem_of_getElem? (i := 1369) (by decide +kernel)) rfl)
theorem mw_M_307 : MW R_M 307 y_M_worthIf := Or.inl (tbl_in (List.mem_of_getElem? (i := 1365) (by decide +kernel)) rfl)
theorem mw_M_310 : MW R_M 310 y_M_reach := Or.inl (tbl_in (List.mem_of_getElem? (i := 1401) (by decide +kernel)) rfl)
theorem mw_M_314 : MW R_M 314 y_M_familyOf := Or.inl (tbl_in (List.mem_of_getElem? (i := 1425) (by decide +kernel)) rfl)
theorem mw_M_317 : MW R_M 317 y_M_toldBy := Or.inl (tbl_in (List.mem_of_getElem? (i := 1428) (by decide +kernel)) rfl)
end
section
theorem d_K_init_0 : decode b_K_init 0 = .ok (.aload_n 0, 1) := by decide +kernel
theorem d_K_init_1 : decode b_K_init 1 = .ok (.invokespecial 3, 3) := by decide +kernel
theorem d_K_init_4 : decode b_K_init 4 = .ok (.aload_n 0, 1) := by decide +kernel
theorem d_K_init_5 : decode b_K_init 5 = .ok (.bipush 24, 2) := by decide +kernel
theorem d_K_init_7 : decode b_K_init 7 = .ok (.newarray .int, 2) := by decide +kernel
theorem d_K_init_9 : decode b_K_init 9 = .ok (.putfield 9, 3) := by decide +kernel
theorem d_K_init_12 : decode b_K_init 12 = .ok (.aload_n 0, 1) := by decide +kernel
theorem d_K_init_13 : decode b_K_init 13 = .ok (.bipush 24, 2) := by decide +kernel
theorem d_K_init_15 : decode b_K_init 15 = .ok (.newarray .int, 2) := by decide +kernel
theorem d_K_init_17 : decode b_K_init 17 = .ok (.putfield 15, 3) := by decide +kernel
theorem d_K_init_20 : decode b_K_init 20 = .ok (.aload_n 0, 1) := by decide +kernel
theorem d_K_init_21 : decode b_K_init 21 = .ok (.bipush 24, 2) := by decide +kernel
theorem d_K_init_23 : decode b_K_init 23 = .ok (.newarray .int, 2) := by decide +kernel
theorem d_K_init_25 : decode b_K_init 25 = .ok (.putfield 18, 3) := by decide +kernel
theorem d_K_init_28 : decode b_K_init 28 = .ok (.aload_n 0, 1) := by decide +kernel
theorem d_K_init_29 : decode b_K_init 29 = .ok (.bipush 24, 2) := by decide +kernel
theorem d_K_init_31 : decode b_K_init 31 = .ok (.newarray .int, 2) := by decide +kernel
theorem d_K_init_33 : decode b_K_init 33 = .ok (.putfield 21, 3) := by decide +kernel
theorem d_K_init_36 : decode b_K_init 36 = .ok (.aload_n 0, 1) := by decide +kernel
theorem d_K_init_37 : decode b_K_init 37 = .ok (.bipush 24, 2) := by decide +kernel
theorem d_K_init_39 : decode b_K_init 39 = .ok (.newarray .int, 2) := by decide +kernel
theorem d_K_init_41 : decode b_K_init 41 = .ok (.putfield 24, 3) := by decide +kernel
theorem d_K_init_44 : decode b_K_init 44 = .ok (.return_, 1) := by decide +kernel
theorem d_K_write_0 : decode b_K_write 0 = .ok (.aload_n 0, 1) := by decide +kernel
theorem d_K_write_1 : decode b_K_write 1 = .ok (.getfield 9, 3) := by decide +kernel
theorem d_K_write_4 : decode b_K_write 4 = .ok (.iload_n 1, 1) := by decide +kernel
theorem d_K_write_5 : decode b_K_write 5 = .ok (.iload_n 2, 1) := by decide +kernel
theorem d_K_write_6 : decode b_K_write 6 = .ok (.invokestatic 27, 3) := by decide +kernel
theorem d_K_write_9 : decode b_K_write 9 = .ok (.aload_n 0, 1) := by decide +kernel
theorem d_K_write_10 : decode b_K_write 10 = .ok (.getfield 15, 3) := by decide +kernel
theorem d_K_write_13 : decode b_K_write 13 = .ok (.iload_n 1, 1) := by decide +kernel
theorem d_K_write_14 : decode b_K_write 14 = .ok (.iload_n 3, 1) := by decide +kernel
theorem d_K_write_15 : decode b_K_write 15 = .ok (.invokestatic 27, 3) := by decide +kernel
theorem d_K_write_18 : decode b_K_write 18 = .ok (.aload_n 0, 1) := by decide +kernel
theorem d_K_write_19 : decode b_K_write 19 = .ok (.getfield 18, 3) := by decide +kernel
theorem d_K_write_22 : decode b_K_write 22 = .ok (.iload_n 1, 1) := by decide +kernel
theorem d_K_write_23 : decode b_K_write 23 = .ok (.iload 4, 2) := by decide +kernel
theorem d_K_write_25 : decode b_K_write 25 = .ok (.bipush 10, 2) := by decide +kernel
theorem d_K_write_27 : decode b_K_write 27 = .ok (.idiv, 1) := by decide +kernel
theorem d_K_write_28 : decode b_K_write 28 = .ok (.invokestatic 27, 3) := by decide +kernel
theorem d_K_write_31 : decode b_K_write 31 = .ok (.aload_n 0, 1) := by decide +kernel
theorem d_K_write_32 : decode b_K_write 32 = .ok (.getfield 21, 3) := by decide +kernel
theorem d_K_write_35 : decode b_K_write 35 = .ok (.iload_n 1, 1) := by decide +kernel
theorem d_K_write_36 : decode b_K_write 36 = .ok (.iload 4, 2) := by decide +kernel
theorem d_K_write_38 : decode b_K_write 38 = .ok (.bipush 10, 2) := by decide +kernel
theorem d_K_write_40 : decode b_K_write 40 = .ok (.irem, 1) := by decide +kernel
theorem d_K_write_41 : decode b_K_write 41 = .ok (.invokestatic 27, 3) := by decide +kernel
theorem d_K_write_44 : decode b_K_write 44 = .ok (.aload_n 0, 1) := by decide +kernel
theorem d_K_write_45 : decode b_K_write 45 = .ok (.getfield 24, 3) := by decide +kernel
theorem d_K_write_48 : decode b_K_write 48 = .ok (.iload_n 1, 1) := by decide +kernel
theorem d_K_write_49 : decode b_K_write 49 = .ok (.iload 5, 2) := by decide +kernel
theorem d_K_write_51 : decode b_K_write 51 = .ok (.invokestatic 27, 3) := by decide +kernel
theorem d_K_write_54 : decode b_K_write 54 = .ok (.return_, 1) := by decide +kernel
theorem d_E_init_0 : decode b_E_init 0 = .ok (.aload_n 0, 1) := by decide +kernel
theorem d_E_init_1 : decode b_E_init 1 = .ok (.invokespecial 3, 3) := by decide +kernel
theorem d_E_init_4 : decode b_E_init 4 = .ok (.aload_n 0, 1) := by decide +kernel
theorem d_E_init_5 : decode b_E_init 5 = .ok (.bipush 24, 2) := by decide +kernel
theorem d_E_init_7 : decode b_E_init 7 = .ok (.newarray .int, 2) := by decide +kernel
theorem d_E_init_9 : decode b_E_init 9 = .ok (.putfield 9, 3) := by decide +kernel
theorem d_E_init_12 : decode b_E_init 12 = .ok (.aload_n 0, 1) := by decide +kernel
theorem d_E_init_13 : decode b_E_init 13 = .ok (.aload_n 1, 1) := by decide +kernel
theorem d_E_init_14 : decode b_E_init 14 = .ok (.putfield 15, 3) := by decide +kernel
theorem d_E_init_17 : decode b_E_init 17 = .ok (.return_, 1) := by decide +kernel
theorem d_E_become_0 : decode b_E_become 0 = .ok (.aload_n 0, 1) := by decide +kernel
theorem d_E_become_1 : decode b_E_become 1 = .ok (.iload_n 1, 1) := by decide +kernel
theorem d_E_become_2 : decode b_E_become 2 = .ok (.putfield 19, 3) := by decide +kernel
theorem d_E_become_5 : decode b_E_become 5 = .ok (.aload_n 0, 1) := by decide +kernel
theorem d_E_become_6 : decode b_E_become 6 = .ok (.iload_n 2, 1) := by decide +kernel
theorem d_E_become_7 : decode b_E_become 7 = .ok (.putfield 23, 3) := by decide +kernel
theorem d_E_become_10 : decode b_E_become 10 = .ok (.aload_n 0, 1) := by decide +kernel
theorem d_E_become_11 : decode b_E_become 11 = .ok (.iload_n 3, 1) := by decide +kernel
theorem d_E_become_12 : decode b_E_become 12 = .ok (.iconst 0, 1) := by decide +kernel
theorem d_E_become_13 : decode b_E_become 13 = .ok (.bipush 99, 2) := by decide +kernel
theorem d_E_become_15 : decode b_E_become 15 = .ok (.invokestatic 26, 3) := by decide +kernel
theorem d_E_become_18 : decode b_E_become 18 = .ok (.putfield 30, 3) := by decide +kernel
theorem d_E_become_21 : decode b_E_become 21 = .ok (.aload_n 0, 1) := by decide +kernel
theorem d_E_become_22 : decode b_E_become 22 = .ok (.iconst 0, 1) := by decide +kernel
theorem d_E_become_23 : decode b_E_become 23 = .ok (.putfield 33, 3) := by decide +kernel
theorem d_E_become_26 : decode b_E_become 26 = .ok (.aload_n 0, 1) := by decide +kernel
theorem d_E_become_27 : decode b_E_become 27 = .ok (.iconst 0, 1) := by decide +kernel
theorem d_E_become_28 : decode b_E_become 28 = .ok (.putfield 36, 3) := by decide +kernel
theorem d_E_become_31 : decode b_E_become 31 = .ok (.return_, 1) := by decide +kernel
theorem d_E_becomeTold_0 : decode b_E_becomeTold 0 = .ok (.aload_n 0, 1) := by decide +kernel
theorem d_E_becomeTold_1 : decode b_E_becomeTold 1 = .ok (.iload_n 1, 1) := by decide +kernel
theorem d_E_becomeTold_2 : decode b_E_becomeTold 2 = .ok (.sipush 1000, 3) := by decide +kernel
theorem d_E_becomeTold_5 : decode b_E_becomeTold 5 = .ok (.idiv, 1) := by decide +kernel
theorem d_E_becomeTold_6 : decode b_E_becomeTold 6 = .ok (.iload_n 1, 1) := by decide +kernel
theorem d_E_becomeTold_7 : decode b_E_becomeTold 7 = .ok (.sipush 1000, 3) := by decide +kernel
theorem d_E_becomeTold_10 : decode b_E_becomeTold 10 = .ok (.irem, 1) := by decide +kernel
theorem d_E_becomeTold_11 : decode b_E_becomeTold 11 = .ok (.bipush 100, 2) := by decide +kernel
theorem d_E_becomeTold_13 : decode b_E_becomeTold 13 = .ok (.idiv, 1) := by decide +kernel
theorem d_E_becomeTold_14 : decode b_E_becomeTold 14 = .ok (.iload_n 1, 1) := by decide +kernel
theorem d_E_becomeTold_15 : decode b_E_becomeTold 15 = .ok (.bipush 100, 2) := by decide +kernel
theorem d_E_becomeTold_17 : decode b_E_becomeTold 17 = .ok (.irem, 1) := by decide +kernel
theorem d_E_becomeTold_18 : decode b_E_becomeTold 18 = .ok (.invokevirtual 39, 3) := by decide +kernel
theorem d_E_becomeTold_21 : decode b_E_becomeTold 21 = .ok (.return_, 1) := by decide +kernel
theorem d_E_told_0 : decode b_E_told 0 = .ok (.aload_n 0, 1) := by decide +kernel
theorem d_E_told_1 : decode b_E_told 1 = .ok (.getfield 19, 3) := by decide +kernel
theorem d_E_told_4 : decode b_E_told 4 = .ok (.aload_n 0, 1) := by decide +kernel
theorem d_E_told_5 : decode b_E_told 5 = .ok (.getfield 23, 3) := by decide +kernel
theorem d_E_told_8 : decode b_E_told 8 = .ok (.aload_n 0, 1) := by decide +kernel
theorem d_E_told_9 : decode b_E_told 9 = .ok (.getfield 30, 3) := by decide +kernel
theorem d_E_told_12 : decode b_E_told 12 = .ok (.invokestatic 43, 3) := by decide +kernel
theorem d_E_told_15 : decode b_E_told 15 = .ok (.ireturn, 1) := by decide +kernel
theorem d_E_replaceBy_0 : decode b_E_replaceBy 0 = .ok (.iconst 0, 1) := by decide +kernel
theorem d_E_replaceBy_1 : decode b_E_replaceBy 1 = .ok (.istore_n 2, 1) := by decide +kernel
theorem d_E_replaceBy_2 : decode b_E_replaceBy 2 = .ok (.iconst 0, 1) := by decide +kernel
theorem d_E_replaceBy_3 : decode b_E_replaceBy 3 = .ok (.istore_n 3, 1) := by decide +kernel
theorem d_E_replaceBy_4 : decode b_E_replaceBy 4 = .ok (.iload_n 3, 1) := by decide +kernel
theorem d_E_replaceBy_5 : decode b_E_replaceBy 5 = .ok (.sipush 600, 3) := by decide +kernel
theorem d_E_replaceBy_8 : decode b_E_replaceBy 8 = .ok (.if_icmp .ge 50, 3) := by decide +kernel
theorem d_E_replaceBy_11 : decode b_E_replaceBy 11 = .ok (.iload_n 2, 1) := by decide +kernel
theorem d_E_replaceBy_12 : decode b_E_replaceBy 12 = .ok (.aload_n 1, 1) := by decide +kernel
theorem d_E_replaceBy_13 : decode b_E_replaceBy 13 = .ok (.getfield 46, 3) := by decide +kernel
theorem d_E_replaceBy_16 : decode b_E_replaceBy 16 = .ok (.if_icmp .ge 42, 3) := by decide +kernel
theorem d_E_replaceBy_19 : decode b_E_replaceBy 19 = .ok (.aload_n 1, 1) := by decide +kernel
theorem d_E_replaceBy_20 : decode b_E_replaceBy 20 = .ok (.getfield 51, 3) := by decide +kernel
theorem d_E_replaceBy_23 : decode b_E_replaceBy 23 = .ok (.iload_n 2, 1) := by decide +kernel
theorem d_E_replaceBy_24 : decode b_E_replaceBy 24 = .ok (.invokestatic 54, 3) := by decide +kernel
theorem d_E_replaceBy_27 : decode b_E_replaceBy 27 = .ok (.istore 4, 2) := by decide +kernel
theorem d_E_replaceBy_29 : decode b_E_replaceBy 29 = .ok (.aload_n 0, 1) := by decide +kernel
theorem d_E_replaceBy_30 : decode b_E_replaceBy 30 = .ok (.iload 4, 2) := by decide +kernel
theorem d_E_replaceBy_32 : decode b_E_replaceBy 32 = .ok (.invokevirtual 58, 3) := by decide +kernel
theorem d_E_replaceBy_35 : decode b_E_replaceBy 35 = .ok (.ifCond .eq 14, 3) := by decide +kernel
theorem d_E_replaceBy_38 : decode b_E_replaceBy 38 = .ok (.aload_n 0, 1) := by decide +kernel
theorem d_E_replaceBy_39 : decode b_E_replaceBy 39 = .ok (.iload 4, 2) := by decide +kernel
theorem d_E_replaceBy_41 : decode b_E_replaceBy 41 = .ok (.invokevirtual 62, 3) := by decide +kernel
theorem d_E_replaceBy_44 : decode b_E_replaceBy 44 = .ok (.iconst 0, 1) := by decide +kernel
theorem d_E_replaceBy_45 : decode b_E_replaceBy 45 = .ok (.istore_n 2, 1) := by decide +kernel
theorem d_E_replaceBy_46 : decode b_E_replaceBy 46 = .ok (.goto 6, 3) := by decide +kernel
theorem d_E_replaceBy_49 : decode b_E_replaceBy 49 = .ok (.iinc 2 1, 3) := by decide +kernel
theorem d_E_replaceBy_52 : decode b_E_replaceBy 52 = .ok (.iinc 3 1, 3) := by decide +kernel
theorem d_E_replaceBy_55 : decode b_E_replaceBy 55 = .ok (.goto (-51), 3) := by decide +kernel
theorem d_E_replaceBy_58 : decode b_E_replaceBy 58 = .ok (.return_, 1) := by decide +kernel
theorem d_E_fits_0 : decode b_E_fits 0 = .ok (.aload_n 0, 1) := by decide +kernel
theorem d_E_fits_1 : decode b_E_fits 1 = .ok (.getfield 15, 3) := by decide +kernel
theorem d_E_fits_4 : decode b_E_fits 4 = .ok (.getfield 66, 3) := by decide +kernel
theorem d_E_fits_7 : decode b_E_fits 7 = .ok (.iload_n 1, 1) := by decide +kernel
theorem d_E_fits_8 : decode b_E_fits 8 = .ok (.invokestatic 54, 3) := by decide +kernel
theorem d_E_fits_11 : decode b_E_fits 11 = .ok (.istore_n 2, 1) := by decide +kernel
theorem d_E_fits_12 : decode b_E_fits 12 = .ok (.iload_n 2, 1) := by decide +kernel
theorem d_E_fits_13 : decode b_E_fits 13 = .ok (.invokestatic 71, 3) := by decide +kernel
theorem d_E_fits_16 : decode b_E_fits 16 = .ok (.iconst 2, 1) := by decide +kernel
theorem d_E_fits_17 : decode b_E_fits 17 = .ok (.if_icmp .ne 32, 3) := by decide +kernel
theorem d_E_fits_20 : decode b_E_fits 20 = .ok (.aload_n 0, 1) := by decide +kernel
theorem d_E_fits_21 : decode b_E_fits 21 = .ok (.getfield 36, 3) := by decide +kernel
theorem d_E_fits_24 : decode b_E_fits 24 = .ok (.iload_n 1, 1) := by decide +kernel
theorem d_E_fits_25 : decode b_E_fits 25 = .ok (.ishr, 1) := by decide +kernel
theorem d_E_fits_26 : decode b_E_fits 26 = .ok (.iconst 1, 1) := by decide +kernel
theorem d_E_fits_27 : decode b_E_fits 27 = .ok (.iand, 1) := by decide +kernel
theorem d_E_fits_28 : decode b_E_fits 28 = .ok (.ifCond .ne 21, 3) := by decide +kernel
theorem d_E_fits_31 : decode b_E_fits 31 = .ok (.aload_n 0, 1) := by decide +kernel
theorem d_E_fits_32 : decode b_E_fits 32 = .ok (.getfield 15, 3) := by decide +kernel
theorem d_E_fits_35 : decode b_E_fits 35 = .ok (.getfield 75, 3) := by decide +kernel
theorem d_E_fits_38 : decode b_E_fits 38 = .ok (.iload_n 1, 1) := by decide +kernel
theorem d_E_fits_39 : decode b_E_fits 39 = .ok (.invokestatic 54, 3) := by decide +kernel
theorem d_E_fits_42 : decode b_E_fits 42 = .ok (.aload_n 0, 1) := by decide +kernel
theorem d_E_fits_43 : decode b_E_fits 43 = .ok (.getfield 19, 3) := by decide +kernel
theorem d_E_fits_46 : decode b_E_fits 46 = .ok (.if_icmp .eq 5, 3) := by decide +kernel
theorem d_E_fits_49 : decode b_E_fits 49 = .ok (.iconst 0, 1) := by decide +kernel
theorem d_E_fits_50 : decode b_E_fits 50 = .ok (.ireturn, 1) := by decide +kernel
theorem d_E_fits_51 : decode b_E_fits 51 = .ok (.iload_n 2, 1) := by decide +kernel
theorem d_E_fits_52 : decode b_E_fits 52 = .ok (.iconst 5, 1) := by decide +kernel
theorem d_E_fits_53 : decode b_E_fits 53 = .ok (.if_icmp .eq 27, 3) := by decide +kernel
theorem d_E_fits_56 : decode b_E_fits 56 = .ok (.iload_n 2, 1) := by decide +kernel
theorem d_E_fits_57 : decode b_E_fits 57 = .ok (.bipush 8, 2) := by decide +kernel
theorem d_E_fits_59 : decode b_E_fits 59 = .ok (.if_icmp .eq 21, 3) := by decide +kernel
theorem d_E_fits_62 : decode b_E_fits 62 = .ok (.aload_n 0, 1) := by decide +kernel
theorem d_E_fits_63 : decode b_E_fits 63 = .ok (.getfield 15, 3) := by decide +kernel
theorem d_E_fits_66 : decode b_E_fits 66 = .ok (.getfield 78, 3) := by decide +kernel
theorem d_E_fits_69 : decode b_E_fits 69 = .ok (.iload_n 1, 1) := by decide +kernel
theorem d_E_fits_70 : decode b_E_fits 70 = .ok (.invokestatic 54, 3) := by decide +kernel
theorem d_E_fits_73 : decode b_E_fits 73 = .ok (.aload_n 0, 1) := by decide +kernel
theorem d_E_fits_74 : decode b_E_fits 74 = .ok (.getfield 23, 3) := by decide +kernel
theorem d_E_fits_77 : decode b_E_fits 77 = .ok (.if_icmp .ne 7, 3) := by decide +kernel
theorem d_E_fits_80 : decode b_E_fits 80 = .ok (.iconst 1, 1) := by decide +kernel
theorem d_E_fits_81 : decode b_E_fits 81 = .ok (.goto 4, 3) := by decide +kernel
theorem d_E_fits_84 : decode b_E_fits 84 = .ok (.iconst 0, 1) := by decide +kernel
theorem d_E_fits_85 : decode b_E_fits 85 = .ok (.ireturn, 1) := by decide +kernel
theorem d_E_use_0 : decode b_E_use 0 = .ok (.aload_n 0, 1) := by decide +kernel
theorem d_E_use_1 : decode b_E_use 1 = .ok (.getfield 9, 3) := by decide +kernel
theorem d_E_use_4 : decode b_E_use 4 = .ok (.aload_n 0, 1) := by decide +kernel
theorem d_E_use_5 : decode b_E_use 5 = .ok (.getfield 33, 3) := by decide +kernel
theorem d_E_use_8 : decode b_E_use 8 = .ok (.iload_n 1, 1) := by decide +kernel
theorem d_E_use_9 : decode b_E_use 9 = .ok (.invokestatic 81, 3) := by decide +kernel
theorem d_E_use_12 : decode b_E_use 12 = .ok (.aload_n 0, 1) := by decide +kernel
theorem d_E_use_13 : decode b_E_use 13 = .ok (.dup, 1) := by decide +kernel
theorem d_E_use_14 : decode b_E_use 14 = .ok (.getfield 33, 3) := by decide +kernel
theorem d_E_use_17 : decode b_E_use 17 = .ok (.iconst 1, 1) := by decide +kernel
theorem d_E_use_18 : decode b_E_use 18 = .ok (.iadd, 1) := by decide +kernel
theorem d_E_use_19 : decode b_E_use 19 = .ok (.putfield 33, 3) := by decide +kernel
theorem d_E_use_22 : decode b_E_use 22 = .ok (.aload_n 0, 1) := by decide +kernel
theorem d_E_use_23 : decode b_E_use 23 = .ok (.dup, 1) := by decide +kernel
theorem d_E_use_24 : decode b_E_use 24 = .ok (.getfield 36, 3) := by decide +kernel
theorem d_E_use_27 : decode b_E_use 27 = .ok (.iconst 1, 1) := by decide +kernel
theorem d_E_use_28 : decode b_E_use 28 = .ok (.iload_n 1, 1) := by decide +kernel
theorem d_E_use_29 : decode b_E_use 29 = .ok (.ishl, 1) := by decide +kernel
theorem d_E_use_30 : decode b_E_use 30 = .ok (.ior, 1) := by decide +kernel
theorem d_E_use_31 : decode b_E_use 31 = .ok (.putfield 36, 3) := by decide +kernel
theorem d_E_use_34 : decode b_E_use 34 = .ok (.aload_n 0, 1) := by decide +kernel
theorem d_E_use_35 : decode b_E_use 35 = .ok (.getfield 15, 3) := by decide +kernel
theorem d_E_use_38 : decode b_E_use 38 = .ok (.getfield 66, 3) := by decide +kernel
theorem d_E_use_41 : decode b_E_use 41 = .ok (.iload_n 1, 1) := by decide +kernel
theorem d_E_use_42 : decode b_E_use 42 = .ok (.invokestatic 54, 3) := by decide +kernel
theorem d_E_use_45 : decode b_E_use 45 = .ok (.istore_n 2, 1) := by decide +kernel
theorem d_E_use_46 : decode b_E_use 46 = .ok (.aload_n 0, 1) := by decide +kernel
theorem d_E_use_47 : decode b_E_use 47 = .ok (.iload_n 2, 1) := by decide +kernel
theorem d_E_use_48 : decode b_E_use 48 = .ok (.aload_n 0, 1) := by decide +kernel
theorem d_E_use_49 : decode b_E_use 49 = .ok (.getfield 15, 3) := by decide +kernel
theorem d_E_use_52 : decode b_E_use 52 = .ok (.getfield 85, 3) := by decide +kernel
theorem d_E_use_55 : decode b_E_use 55 = .ok (.iload_n 1, 1) := by decide +kernel
theorem d_E_use_56 : decode b_E_use 56 = .ok (.invokestatic 54, 3) := by decide +kernel
theorem d_E_use_59 : decode b_E_use 59 = .ok (.aload_n 0, 1) := by decide +kernel
theorem d_E_use_60 : decode b_E_use 60 = .ok (.getfield 30, 3) := by decide +kernel
theorem d_E_use_63 : decode b_E_use 63 = .ok (.invokestatic 88, 3) := by decide +kernel
theorem d_E_use_66 : decode b_E_use 66 = .ok (.iconst 0, 1) := by decide +kernel
theorem d_E_use_67 : decode b_E_use 67 = .ok (.bipush 99, 2) := by decide +kernel
theorem d_E_use_69 : decode b_E_use 69 = .ok (.invokestatic 26, 3) := by decide +kernel
theorem d_E_use_72 : decode b_E_use 72 = .ok (.putfield 30, 3) := by decide +kernel
theorem d_E_use_75 : decode b_E_use 75 = .ok (.iload_n 2, 1) := by decide +kernel
theorem d_E_use_76 : decode b_E_use 76 = .ok (.bipush 6, 2) := by decide +kernel
theorem d_E_use_78 : decode b_E_use 78 = .ok (.if_icmp .ne 16, 3) := by decide +kernel
theorem d_E_use_81 : decode b_E_use 81 = .ok (.aload_n 0, 1) := by decide +kernel
theorem d_E_use_82 : decode b_E_use 82 = .ok (.iconst 1, 1) := by decide +kernel
theorem d_E_use_83 : decode b_E_use 83 = .ok (.aload_n 0, 1) := by decide +kernel
theorem d_E_use_84 : decode b_E_use 84 = .ok (.getfield 23, 3) := by decide +kernel
theorem d_E_use_87 : decode b_E_use 87 = .ok (.isub, 1) := by decide +kernel
theorem d_E_use_88 : decode b_E_use 88 = .ok (.putfield 23, 3) := by decide +kernel
theorem d_E_use_91 : decode b_E_use 91 = .ok (.goto 26, 3) := by decide +kernel
theorem d_E_use_94 : decode b_E_use 94 = .ok (.iload_n 2, 1) := by decide +kernel
theorem d_E_use_95 : decode b_E_use 95 = .ok (.bipush 8, 2) := by decide +kernel
theorem d_E_use_97 : decode b_E_use 97 = .ok (.if_icmp .ne 20, 3) := by decide +kernel
theorem d_E_use_100 : decode b_E_use 100 = .ok (.aload_n 0, 1) := by decide +kernel
theorem d_E_use_101 : decode b_E_use 101 = .ok (.aload_n 0, 1) := by decide +kernel
theorem d_E_use_102 : decode b_E_use 102 = .ok (.getfield 15, 3) := by decide +kernel
theorem d_E_use_105 : decode b_E_use 105 = .ok (.getfield 91, 3) := by decide +kernel
theorem d_E_use_108 : decode b_E_use 108 = .ok (.iload_n 1, 1) := by decide +kernel
theorem d_E_use_109 : decode b_E_use 109 = .ok (.invokestatic 54, 3) := by decide +kernel
theorem d_E_use_112 : decode b_E_use 112 = .ok (.iconst 3, 1) := by decide +kernel
theorem d_E_use_113 : decode b_E_use 113 = .ok (.irem, 1) := by decide +kernel
theorem d_E_use_114 : decode b_E_use 114 = .ok (.putfield 19, 3) := by decide +kernel
theorem d_E_use_117 : decode b_E_use 117 = .ok (.return_, 1) := by decide +kernel
theorem d_G_init_0 : decode b_G_init 0 = .ok (.aload_n 0, 1) := by decide +kernel
theorem d_G_init_1 : decode b_G_init 1 = .ok (.invokespecial 3, 3) := by decide +kernel
theorem d_G_init_4 : decode b_G_init 4 = .ok (.aload_n 0, 1) := by decide +kernel
theorem d_G_init_5 : decode b_G_init 5 = .ok (.iconst 2, 1) := by decide +kernel
theorem d_G_init_6 : decode b_G_init 6 = .ok (.newarray .int, 2) := by decide +kernel
theorem d_G_init_8 : decode b_G_init 8 = .ok (.dup, 1) := by decide +kernel
theorem d_G_init_9 : decode b_G_init 9 = .ok (.iconst 0, 1) := by decide +kernel
theorem d_G_init_10 : decode b_G_init 10 = .ok (.bipush 20, 2) := by decide +kernel
theorem d_G_init_12 : decode b_G_init 12 = .ok (.iastore, 1) := by decide +kernel
theorem d_G_init_13 : decode b_G_init 13 = .ok (.dup, 1) := by decide +kernel
theorem d_G_init_14 : decode b_G_init 14 = .ok (.iconst 1, 1) := by decide +kernel
theorem d_G_init_15 : decode b_G_init 15 = .ok (.bipush 20, 2) := by decide +kernel
theorem d_G_init_17 : decode b_G_init 17 = .ok (.iastore, 1) := by decide +kernel
theorem d_G_init_18 : decode b_G_init 18 = .ok (.putfield 9, 3) := by decide +kernel
theorem d_G_init_21 : decode b_G_init 21 = .ok (.aload_n 0, 1) := by decide +kernel
theorem d_G_init_22 : decode b_G_init 22 = .ok (.iconst 4, 1) := by decide +kernel
theorem d_G_init_23 : decode b_G_init 23 = .ok (.newarray .int, 2) := by decide +kernel
theorem d_G_init_25 : decode b_G_init 25 = .ok (.dup, 1) := by decide +kernel
theorem d_G_init_26 : decode b_G_init 26 = .ok (.iconst 0, 1) := by decide +kernel
theorem d_G_init_27 : decode b_G_init 27 = .ok (.iconst 1, 1) := by decide +kernel
theorem d_G_init_28 : decode b_G_init 28 = .ok (.iastore, 1) := by decide +kernel
theorem d_G_init_29 : decode b_G_init 29 = .ok (.dup, 1) := by decide +kernel
theorem d_G_init_30 : decode b_G_init 30 = .ok (.iconst 1, 1) := by decide +kernel
theorem d_G_init_31 : decode b_G_init 31 = .ok (.iconst 2, 1) := by decide +kernel
theorem d_G_init_32 : decode b_G_init 32 = .ok (.iastore, 1) := by decide +kernel
theorem d_G_init_33 : decode b_G_init 33 = .ok (.dup, 1) := by decide +kernel
theorem d_G_init_34 : decode b_G_init 34 = .ok (.iconst 2, 1) := by decide +kernel
theorem d_G_init_35 : decode b_G_init 35 = .ok (.iconst 1, 1) := by decide +kernel
theorem d_G_init_36 : decode b_G_init 36 = .ok (.iastore, 1) := by decide +kernel
theorem d_G_init_37 : decode b_G_init 37 = .ok (.dup, 1) := by decide +kernel
theorem d_G_init_38 : decode b_G_init 38 = .ok (.iconst 3, 1) := by decide +kernel
theorem d_G_init_39 : decode b_G_init 39 = .ok (.bipush 7, 2) := by decide +kernel
theorem d_G_init_41 : decode b_G_init 41 = .ok (.iastore, 1) := by decide +kernel
theorem d_G_init_42 : decode b_G_init 42 = .ok (.putfield 15, 3) := by decide +kernel
theorem d_G_init_45 : decode b_G_init 45 = .ok (.aload_n 0, 1) := by decide +kernel
theorem d_G_init_46 : decode b_G_init 46 = .ok (.bipush 24, 2) := by decide +kernel
theorem d_G_init_48 : decode b_G_init 48 = .ok (.newarray .int, 2) := by decide +kernel
theorem d_G_init_50 : decode b_G_init 50 = .ok (.putfield 18, 3) := by decide +kernel
theorem d_G_init_53 : decode b_G_init 53 = .ok (.aload_n 0, 1) := by decide +kernel
theorem d_G_init_54 : decode b_G_init 54 = .ok (.bipush 24, 2) := by decide +kernel
theorem d_G_init_56 : decode b_G_init 56 = .ok (.newarray .int, 2) := by decide +kernel
theorem d_G_init_58 : decode b_G_init 58 = .ok (.putfield 21, 3) := by decide +kernel
theorem d_G_init_61 : decode b_G_init 61 = .ok (.aload_n 0, 1) := by decide +kernel
theorem d_G_init_62 : decode b_G_init 62 = .ok (.bipush 24, 2) := by decide +kernel
theorem d_G_init_64 : decode b_G_init 64 = .ok (.newarray .int, 2) := by decide +kernel
theorem d_G_init_66 : decode b_G_init 66 = .ok (.putfield 24, 3) := by decide +kernel
theorem d_G_init_69 : decode b_G_init 69 = .ok (.aload_n 0, 1) := by decide +kernel
theorem d_G_init_70 : decode b_G_init 70 = .ok (.bipush 64, 2) := by decide +kernel
theorem d_G_init_72 : decode b_G_init 72 = .ok (.newarray .int, 2) := by decide +kernel
theorem d_G_init_74 : decode b_G_init 74 = .ok (.putfield 27, 3) := by decide +kernel
theorem d_G_init_77 : decode b_G_init 77 = .ok (.aload_n 0, 1) := by decide +kernel
theorem d_G_init_78 : decode b_G_init 78 = .ok (.iconst 1, 1) := by decide +kernel
theorem d_G_init_79 : decode b_G_init 79 = .ok (.putfield 30, 3) := by decide +kernel
theorem d_G_init_82 : decode b_G_init 82 = .ok (.aload_n 0, 1) := by decide +kernel
theorem d_G_init_83 : decode b_G_init 83 = .ok (.aload_n 1, 1) := by decide +kernel
theorem d_G_init_84 : decode b_G_init 84 = .ok (.putfield 34, 3) := by decide +kernel
theorem d_G_init_87 : decode b_G_init 87 = .ok (.return_, 1) := by decide +kernel
theorem d_G_copyFrom_0 : decode b_G_copyFrom 0 = .ok (.aload_n 1, 1) := by decide +kernel
theorem d_G_copyFrom_1 : decode b_G_copyFrom 1 = .ok (.getfield 9, 3) := by decide +kernel
theorem d_G_copyFrom_4 : decode b_G_copyFrom 4 = .ok (.aload_n 0, 1) := by decide +kernel
theorem d_G_copyFrom_5 : decode b_G_copyFrom 5 = .ok (.getfield 9, 3) := by decide +kernel
theorem d_G_copyFrom_8 : decode b_G_copyFrom 8 = .ok (.invokestatic 38, 3) := by decide +kernel
theorem d_G_copyFrom_11 : decode b_G_copyFrom 11 = .ok (.aload_n 1, 1) := by decide +kernel
theorem d_G_copyFrom_12 : decode b_G_copyFrom 12 = .ok (.getfield 15, 3) := by decide +kernel
theorem d_G_copyFrom_15 : decode b_G_copyFrom 15 = .ok (.aload_n 0, 1) := by decide +kernel
theorem d_G_copyFrom_16 : decode b_G_copyFrom 16 = .ok (.getfield 15, 3) := by decide +kernel
theorem d_G_copyFrom_19 : decode b_G_copyFrom 19 = .ok (.invokestatic 38, 3) := by decide +kernel
theorem d_G_copyFrom_22 : decode b_G_copyFrom 22 = .ok (.aload_n 1, 1) := by decide +kernel
theorem d_G_copyFrom_23 : decode b_G_copyFrom 23 = .ok (.getfield 18, 3) := by decide +kernel
theorem d_G_copyFrom_26 : decode b_G_copyFrom 26 = .ok (.aload_n 0, 1) := by decide +kernel
theorem d_G_copyFrom_27 : decode b_G_copyFrom 27 = .ok (.getfield 18, 3) := by decide +kernel
theorem d_G_copyFrom_30 : decode b_G_copyFrom 30 = .ok (.invokestatic 38, 3) := by decide +kernel
theorem d_G_copyFrom_33 : decode b_G_copyFrom 33 = .ok (.aload_n 1, 1) := by decide +kernel
theorem d_G_copyFrom_34 : decode b_G_copyFrom 34 = .ok (.getfield 21, 3) := by decide +kernel
theorem d_G_copyFrom_37 : decode b_G_copyFrom 37 = .ok (.aload_n 0, 1) := by decide +kernel
theorem d_G_copyFrom_38 : decode b_G_copyFrom 38 = .ok (.getfield 21, 3) := by decide +kernel
theorem d_G_copyFrom_41 : decode b_G_copyFrom 41 = .ok (.invokestatic 38, 3) := by decide +kernel
theorem d_G_copyFrom_44 : decode b_G_copyFrom 44 = .ok (.aload_n 1, 1) := by decide +kernel
theorem d_G_copyFrom_45 : decode b_G_copyFrom 45 = .ok (.getfield 24, 3) := by decide +kernel
theorem d_G_copyFrom_48 : decode b_G_copyFrom 48 = .ok (.aload_n 0, 1) := by decide +kernel
theorem d_G_copyFrom_49 : decode b_G_copyFrom 49 = .ok (.getfield 24, 3) := by decide +kernel
theorem d_G_copyFrom_52 : decode b_G_copyFrom 52 = .ok (.invokestatic 38, 3) := by decide +kernel
theorem d_G_copyFrom_55 : decode b_G_copyFrom 55 = .ok (.aload_n 1, 1) := by decide +kernel
theorem d_G_copyFrom_56 : decode b_G_copyFrom 56 = .ok (.getfield 27, 3) := by decide +kernel
theorem d_G_copyFrom_59 : decode b_G_copyFrom 59 = .ok (.aload_n 0, 1) := by decide +kernel
theorem d_G_copyFrom_60 : decode b_G_copyFrom 60 = .ok (.getfield 27, 3) := by decide +kernel
theorem d_G_copyFrom_63 : decode b_G_copyFrom 63 = .ok (.invokestatic 38, 3) := by decide +kernel
theorem d_G_copyFrom_66 : decode b_G_copyFrom 66 = .ok (.aload_n 0, 1) := by decide +kernel
theorem d_G_copyFrom_67 : decode b_G_copyFrom 67 = .ok (.aload_n 1, 1) := by decide +kernel
theorem d_G_copyFrom_68 : decode b_G_copyFrom 68 = .ok (.getfield 42, 3) := by decide +kernel
theorem d_G_copyFrom_71 : decode b_G_copyFrom 71 = .ok (.putfield 42, 3) := by decide +kernel
theorem d_G_copyFrom_74 : decode b_G_copyFrom 74 = .ok (.aload_n 0, 1) := by decide +kernel
theorem d_G_copyFrom_75 : decode b_G_copyFrom 75 = .ok (.aload_n 1, 1) := by decide +kernel
theorem d_G_copyFrom_76 : decode b_G_copyFrom 76 = .ok (.getfield 45, 3) := by decide +kernel
theorem d_G_copyFrom_79 : decode b_G_copyFrom 79 = .ok (.putfield 45, 3) := by decide +kernel
theorem d_G_copyFrom_82 : decode b_G_copyFrom 82 = .ok (.aload_n 0, 1) := by decide +kernel
theorem d_G_copyFrom_83 : decode b_G_copyFrom 83 = .ok (.aload_n 1, 1) := by decide +kernel
theorem d_G_copyFrom_84 : decode b_G_copyFrom 84 = .ok (.getfield 48, 3) := by decide +kernel
theorem d_G_copyFrom_87 : decode b_G_copyFrom 87 = .ok (.putfield 48, 3) := by decide +kernel
theorem d_G_copyFrom_90 : decode b_G_copyFrom 90 = .ok (.aload_n 0, 1) := by decide +kernel
theorem d_G_copyFrom_91 : decode b_G_copyFrom 91 = .ok (.aload_n 1, 1) := by decide +kernel
theorem d_G_copyFrom_92 : decode b_G_copyFrom 92 = .ok (.getfield 51, 3) := by decide +kernel
theorem d_G_copyFrom_95 : decode b_G_copyFrom 95 = .ok (.putfield 51, 3) := by decide +kernel
theorem d_G_copyFrom_98 : decode b_G_copyFrom 98 = .ok (.aload_n 0, 1) := by decide +kernel
theorem d_G_copyFrom_99 : decode b_G_copyFrom 99 = .ok (.aload_n 1, 1) := by decide +kernel
theorem d_G_copyFrom_100 : decode b_G_copyFrom 100 = .ok (.getfield 54, 3) := by decide +kernel
theorem d_G_copyFrom_103 : decode b_G_copyFrom 103 = .ok (.putfield 54, 3) := by decide +kernel
theorem d_G_copyFrom_106 : decode b_G_copyFrom 106 = .ok (.aload_n 0, 1) := by decide +kernel
theorem d_G_copyFrom_107 : decode b_G_copyFrom 107 = .ok (.aload_n 1, 1) := by decide +kernel
theorem d_G_copyFrom_108 : decode b_G_copyFrom 108 = .ok (.getfield 57, 3) := by decide +kernel
theorem d_G_copyFrom_111 : decode b_G_copyFrom 111 = .ok (.putfield 57, 3) := by decide +kernel
theorem d_G_copyFrom_114 : decode b_G_copyFrom 114 = .ok (.aload_n 0, 1) := by decide +kernel
theorem d_G_copyFrom_115 : decode b_G_copyFrom 115 = .ok (.aload_n 1, 1) := by decide +kernel
theorem d_G_copyFrom_116 : decode b_G_copyFrom 116 = .ok (.getfield 30, 3) := by decide +kernel
theorem d_G_copyFrom_119 : decode b_G_copyFrom 119 = .ok (.putfield 30, 3) := by decide +kernel
theorem d_G_copyFrom_122 : decode b_G_copyFrom 122 = .ok (.aload_n 0, 1) := by decide +kernel
theorem d_G_copyFrom_123 : decode b_G_copyFrom 123 = .ok (.aload_n 1, 1) := by decide +kernel
theorem d_G_copyFrom_124 : decode b_G_copyFrom 124 = .ok (.getfield 60, 3) := by decide +kernel
theorem d_G_copyFrom_127 : decode b_G_copyFrom 127 = .ok (.putfield 60, 3) := by decide +kernel
theorem d_G_copyFrom_130 : decode b_G_copyFrom 130 = .ok (.return_, 1) := by decide +kernel
theorem d_G_has_0 : decode b_G_has 0 = .ok (.iload_n 1, 1) := by decide +kernel
theorem d_G_has_1 : decode b_G_has 1 = .ok (.ifCond .lt 15, 3) := by decide +kernel
theorem d_G_has_4 : decode b_G_has 4 = .ok (.iload_n 1, 1) := by decide +kernel
theorem d_G_has_5 : decode b_G_has 5 = .ok (.aload_n 0, 1) := by decide +kernel
theorem d_G_has_6 : decode b_G_has 6 = .ok (.getfield 42, 3) := by decide +kernel
theorem d_G_has_9 : decode b_G_has 9 = .ok (.if_icmp .ge 7, 3) := by decide +kernel
theorem d_G_has_12 : decode b_G_has 12 = .ok (.iconst 1, 1) := by decide +kernel
theorem d_G_has_13 : decode b_G_has 13 = .ok (.goto 4, 3) := by decide +kernel
theorem d_G_has_16 : decode b_G_has 16 = .ok (.iconst 0, 1) := by decide +kernel
theorem d_G_has_17 : decode b_G_has 17 = .ok (.ireturn, 1) := by decide +kernel
theorem d_G_addCard_0 : decode b_G_addCard 0 = .ok (.aload_n 0, 1) := by decide +kernel
theorem d_G_addCard_1 : decode b_G_addCard 1 = .ok (.getfield 42, 3) := by decide +kernel
theorem d_G_addCard_4 : decode b_G_addCard 4 = .ok (.istore 5, 2) := by decide +kernel
theorem d_G_addCard_6 : decode b_G_addCard 6 = .ok (.aload_n 0, 1) := by decide +kernel
theorem d_G_addCard_7 : decode b_G_addCard 7 = .ok (.getfield 34, 3) := by decide +kernel
theorem d_G_addCard_10 : decode b_G_addCard 10 = .ok (.iload 5, 2) := by decide +kernel
theorem d_G_addCard_12 : decode b_G_addCard 12 = .ok (.iload_n 1, 1) := by decide +kernel
theorem d_G_addCard_13 : decode b_G_addCard 13 = .ok (.iload_n 2, 1) := by decide +kernel
theorem d_G_addCard_14 : decode b_G_addCard 14 = .ok (.iload_n 3, 1) := by decide +kernel
theorem d_G_addCard_15 : decode b_G_addCard 15 = .ok (.iload 4, 2) := by decide +kernel
theorem d_G_addCard_17 : decode b_G_addCard 17 = .ok (.invokevirtual 63, 3) := by decide +kernel
theorem d_G_addCard_20 : decode b_G_addCard 20 = .ok (.aload_n 0, 1) := by decide +kernel
theorem d_G_addCard_21 : decode b_G_addCard 21 = .ok (.getfield 18, 3) := by decide +kernel
theorem d_G_addCard_24 : decode b_G_addCard 24 = .ok (.iload 5, 2) := by decide +kernel
theorem d_G_addCard_26 : decode b_G_addCard 26 = .ok (.iconst 0, 1) := by decide +kernel
theorem d_G_addCard_27 : decode b_G_addCard 27 = .ok (.invokestatic 69, 3) := by decide +kernel
theorem d_G_addCard_30 : decode b_G_addCard 30 = .ok (.aload_n 0, 1) := by decide +kernel
theorem d_G_addCard_31 : decode b_G_addCard 31 = .ok (.dup, 1) := by decide +kernel
theorem d_G_addCard_32 : decode b_G_addCard 32 = .ok (.getfield 42, 3) := by decide +kernel
theorem d_G_addCard_35 : decode b_G_addCard 35 = .ok (.iconst 1, 1) := by decide +kernel
theorem d_G_addCard_36 : decode b_G_addCard 36 = .ok (.iadd, 1) := by decide +kernel
theorem d_G_addCard_37 : decode b_G_addCard 37 = .ok (.putfield 42, 3) := by decide +kernel
theorem d_G_addCard_40 : decode b_G_addCard 40 = .ok (.iload 5, 2) := by decide +kernel
theorem d_G_addCard_42 : decode b_G_addCard 42 = .ok (.ireturn, 1) := by decide +kernel
theorem d_G_moveTo_0 : decode b_G_moveTo 0 = .ok (.aload_n 0, 1) := by decide +kernel
theorem d_G_moveTo_1 : decode b_G_moveTo 1 = .ok (.getfield 18, 3) := by decide +kernel
theorem d_G_moveTo_4 : decode b_G_moveTo 4 = .ok (.iload_n 1, 1) := by decide +kernel
theorem d_G_moveTo_5 : decode b_G_moveTo 5 = .ok (.iload_n 2, 1) := by decide +kernel
theorem d_G_moveTo_6 : decode b_G_moveTo 6 = .ok (.invokestatic 69, 3) := by decide +kernel
theorem d_G_moveTo_9 : decode b_G_moveTo 9 = .ok (.aload_n 0, 1) := by decide +kernel
theorem d_G_moveTo_10 : decode b_G_moveTo 10 = .ok (.dup, 1) := by decide +kernel
theorem d_G_moveTo_11 : decode b_G_moveTo 11 = .ok (.getfield 60, 3) := by decide +kernel
theorem d_G_moveTo_14 : decode b_G_moveTo 14 = .ok (.iconst 1, 1) := by decide +kernel
theorem d_G_moveTo_15 : decode b_G_moveTo 15 = .ok (.iadd, 1) := by decide +kernel
theorem d_G_moveTo_16 : decode b_G_moveTo 16 = .ok (.putfield 60, 3) := by decide +kernel
theorem d_G_moveTo_19 : decode b_G_moveTo 19 = .ok (.return_, 1) := by decide +kernel
theorem d_G_playCard_0 : decode b_G_playCard 0 = .ok (.aload_n 0, 1) := by decide +kernel
theorem d_G_playCard_1 : decode b_G_playCard 1 = .ok (.iload_n 1, 1) := by decide +kernel
theorem d_G_playCard_2 : decode b_G_playCard 2 = .ok (.invokevirtual 73, 3) := by decide +kernel
theorem d_G_playCard_5 : decode b_G_playCard 5 = .ok (.ifCond .eq 9, 3) := by decide +kernel
theorem d_G_playCard_8 : decode b_G_playCard 8 = .ok (.aload_n 0, 1) := by decide +kernel
theorem d_G_playCard_9 : decode b_G_playCard 9 = .ok (.iload_n 1, 1) := by decide +kernel
theorem d_G_playCard_10 : decode b_G_playCard 10 = .ok (.iconst 2, 1) := by decide +kernel
theorem d_G_playCard_11 : decode b_G_playCard 11 = .ok (.invokevirtual 77, 3) := by decide +kernel
theorem d_G_playCard_14 : decode b_G_playCard 14 = .ok (.return_, 1) := by decide +kernel
theorem d_G_layDown_0 : decode b_G_layDown 0 = .ok (.aload_n 0, 1) := by decide +kernel
theorem d_G_layDown_1 : decode b_G_layDown 1 = .ok (.getfield 24, 3) := by decide +kernel
theorem d_G_layDown_4 : decode b_G_layDown 4 = .ok (.aload_n 0, 1) := by decide +kernel
theorem d_G_layDown_5 : decode b_G_layDown 5 = .ok (.getfield 45, 3) := by decide +kernel
theorem d_G_layDown_8 : decode b_G_layDown 8 = .ok (.iload_n 1, 1) := by decide +kernel
theorem d_G_layDown_9 : decode b_G_layDown 9 = .ok (.invokestatic 69, 3) := by decide +kernel
theorem d_G_layDown_12 : decode b_G_layDown 12 = .ok (.aload_n 0, 1) := by decide +kernel
theorem d_G_layDown_13 : decode b_G_layDown 13 = .ok (.dup, 1) := by decide +kernel
theorem d_G_layDown_14 : decode b_G_layDown 14 = .ok (.getfield 45, 3) := by decide +kernel
theorem d_G_layDown_17 : decode b_G_layDown 17 = .ok (.iconst 1, 1) := by decide +kernel
theorem d_G_layDown_18 : decode b_G_layDown 18 = .ok (.iadd, 1) := by decide +kernel
theorem d_G_layDown_19 : decode b_G_layDown 19 = .ok (.putfield 45, 3) := by decide +kernel
theorem d_G_layDown_22 : decode b_G_layDown 22 = .ok (.aload_n 0, 1) := by decide +kernel
theorem d_G_layDown_23 : decode b_G_layDown 23 = .ok (.getfield 21, 3) := by decide +kernel
theorem d_G_layDown_26 : decode b_G_layDown 26 = .ok (.iload_n 1, 1) := by decide +kernel
theorem d_G_layDown_27 : decode b_G_layDown 27 = .ok (.aload_n 0, 1) := by decide +kernel
theorem d_G_layDown_28 : decode b_G_layDown 28 = .ok (.getfield 51, 3) := by decide +kernel
theorem d_G_layDown_31 : decode b_G_layDown 31 = .ok (.invokestatic 69, 3) := by decide +kernel
theorem d_G_layDown_34 : decode b_G_layDown 34 = .ok (.aload_n 0, 1) := by decide +kernel
theorem d_G_layDown_35 : decode b_G_layDown 35 = .ok (.dup, 1) := by decide +kernel
theorem d_G_layDown_36 : decode b_G_layDown 36 = .ok (.getfield 51, 3) := by decide +kernel
theorem d_G_layDown_39 : decode b_G_layDown 39 = .ok (.iconst 1, 1) := by decide +kernel
theorem d_G_layDown_40 : decode b_G_layDown 40 = .ok (.iadd, 1) := by decide +kernel
theorem d_G_layDown_41 : decode b_G_layDown 41 = .ok (.putfield 51, 3) := by decide +kernel
theorem d_G_layDown_44 : decode b_G_layDown 44 = .ok (.aload_n 0, 1) := by decide +kernel
theorem d_G_layDown_45 : decode b_G_layDown 45 = .ok (.iload_n 1, 1) := by decide +kernel
theorem d_G_layDown_46 : decode b_G_layDown 46 = .ok (.iconst 3, 1) := by decide +kernel
theorem d_G_layDown_47 : decode b_G_layDown 47 = .ok (.invokevirtual 77, 3) := by decide +kernel
theorem d_G_layDown_50 : decode b_G_layDown 50 = .ok (.return_, 1) := by decide +kernel
theorem d_G_takeOff_0 : decode b_G_takeOff 0 = .ok (.iconst 0, 1) := by decide +kernel
theorem d_G_takeOff_1 : decode b_G_takeOff 1 = .ok (.istore_n 2, 1) := by decide +kernel
theorem d_G_takeOff_2 : decode b_G_takeOff 2 = .ok (.iconst 0, 1) := by decide +kernel
theorem d_G_takeOff_3 : decode b_G_takeOff 3 = .ok (.istore_n 3, 1) := by decide +kernel
theorem d_G_takeOff_4 : decode b_G_takeOff 4 = .ok (.iload_n 3, 1) := by decide +kernel
theorem d_G_takeOff_5 : decode b_G_takeOff 5 = .ok (.aload_n 0, 1) := by decide +kernel
theorem d_G_takeOff_6 : decode b_G_takeOff 6 = .ok (.getfield 45, 3) := by decide +kernel
theorem d_G_takeOff_9 : decode b_G_takeOff 9 = .ok (.if_icmp .ge 38, 3) := by decide +kernel
theorem d_G_takeOff_12 : decode b_G_takeOff 12 = .ok (.aload_n 0, 1) := by decide +kernel
theorem d_G_takeOff_13 : decode b_G_takeOff 13 = .ok (.getfield 24, 3) := by decide +kernel
theorem d_G_takeOff_16 : decode b_G_takeOff 16 = .ok (.iload_n 3, 1) := by decide +kernel
theorem d_G_takeOff_17 : decode b_G_takeOff 17 = .ok (.invokestatic 81, 3) := by decide +kernel
theorem d_G_takeOff_20 : decode b_G_takeOff 20 = .ok (.istore 4, 2) := by decide +kernel
theorem d_G_takeOff_22 : decode b_G_takeOff 22 = .ok (.iload 4, 2) := by decide +kernel
theorem d_G_takeOff_24 : decode b_G_takeOff 24 = .ok (.iload_n 1, 1) := by decide +kernel
theorem d_G_takeOff_25 : decode b_G_takeOff 25 = .ok (.if_icmp .eq 16, 3) := by decide +kernel
theorem d_G_takeOff_28 : decode b_G_takeOff 28 = .ok (.aload_n 0, 1) := by decide +kernel
theorem d_G_takeOff_29 : decode b_G_takeOff 29 = .ok (.getfield 24, 3) := by decide +kernel
theorem d_G_takeOff_32 : decode b_G_takeOff 32 = .ok (.iload_n 2, 1) := by decide +kernel
theorem d_G_takeOff_33 : decode b_G_takeOff 33 = .ok (.iload 4, 2) := by decide +kernel
theorem d_G_takeOff_35 : decode b_G_takeOff 35 = .ok (.invokestatic 69, 3) := by decide +kernel
theorem d_G_takeOff_38 : decode b_G_takeOff 38 = .ok (.iinc 2 1, 3) := by decide +kernel
theorem d_G_takeOff_41 : decode b_G_takeOff 41 = .ok (.iinc 3 1, 3) := by decide +kernel
theorem d_G_takeOff_44 : decode b_G_takeOff 44 = .ok (.goto (-40), 3) := by decide +kernel
theorem d_G_takeOff_47 : decode b_G_takeOff 47 = .ok (.aload_n 0, 1) := by decide +kernel
theorem d_G_takeOff_48 : decode b_G_takeOff 48 = .ok (.iload_n 2, 1) := by decide +kernel
theorem d_G_takeOff_49 : decode b_G_takeOff 49 = .ok (.putfield 45, 3) := by decide +kernel
theorem d_G_takeOff_52 : decode b_G_takeOff 52 = .ok (.aload_n 0, 1) := by decide +kernel
theorem d_G_takeOff_53 : decode b_G_takeOff 53 = .ok (.iload_n 1, 1) := by decide +kernel
theorem d_G_takeOff_54 : decode b_G_takeOff 54 = .ok (.iconst 4, 1) := by decide +kernel
theorem d_G_takeOff_55 : decode b_G_takeOff 55 = .ok (.invokevirtual 77, 3) := by decide +kernel
theorem d_G_takeOff_58 : decode b_G_takeOff 58 = .ok (.return_, 1) := by decide +kernel
theorem d_G_push_0 : decode b_G_push 0 = .ok (.aload_n 0, 1) := by decide +kernel
theorem d_G_push_1 : decode b_G_push 1 = .ok (.getfield 48, 3) := by decide +kernel
theorem d_G_push_4 : decode b_G_push 4 = .ok (.bipush 64, 2) := by decide +kernel
theorem d_G_push_6 : decode b_G_push 6 = .ok (.if_icmp .lt 5, 3) := by decide +kernel
theorem d_G_push_9 : decode b_G_push 9 = .ok (.iconst 0, 1) := by decide +kernel
theorem d_G_push_10 : decode b_G_push 10 = .ok (.ireturn, 1) := by decide +kernel
theorem d_G_push_11 : decode b_G_push 11 = .ok (.aload_n 0, 1) := by decide +kernel
theorem d_G_push_12 : decode b_G_push 12 = .ok (.getfield 27, 3) := by decide +kernel
theorem d_G_push_15 : decode b_G_push 15 = .ok (.aload_n 0, 1) := by decide +kernel
theorem d_G_push_16 : decode b_G_push 16 = .ok (.getfield 48, 3) := by decide +kernel
theorem d_G_push_19 : decode b_G_push 19 = .ok (.iload_n 1, 1) := by decide +kernel
theorem d_G_push_20 : decode b_G_push 20 = .ok (.invokestatic 69, 3) := by decide +kernel
theorem d_G_push_23 : decode b_G_push 23 = .ok (.aload_n 0, 1) := by decide +kernel
theorem d_G_push_24 : decode b_G_push 24 = .ok (.dup, 1) := by decide +kernel
theorem d_G_push_25 : decode b_G_push 25 = .ok (.getfield 48, 3) := by decide +kernel
theorem d_G_push_28 : decode b_G_push 28 = .ok (.iconst 1, 1) := by decide +kernel
theorem d_G_push_29 : decode b_G_push 29 = .ok (.iadd, 1) := by decide +kernel
theorem d_G_push_30 : decode b_G_push 30 = .ok (.putfield 48, 3) := by decide +kernel
theorem d_G_push_33 : decode b_G_push 33 = .ok (.iconst 1, 1) := by decide +kernel
theorem d_G_push_34 : decode b_G_push 34 = .ok (.ireturn, 1) := by decide +kernel
theorem d_G_pop_0 : decode b_G_pop 0 = .ok (.aload_n 0, 1) := by decide +kernel
theorem d_G_pop_1 : decode b_G_pop 1 = .ok (.getfield 48, 3) := by decide +kernel
theorem d_G_pop_4 : decode b_G_pop 4 = .ok (.ifCond .gt 6, 3) := by decide +kernel
theorem d_G_pop_7 : decode b_G_pop 7 = .ok (.bipush (-2), 2) := by decide +kernel
theorem d_G_pop_9 : decode b_G_pop 9 = .ok (.ireturn, 1) := by decide +kernel
theorem d_G_pop_10 : decode b_G_pop 10 = .ok (.aload_n 0, 1) := by decide +kernel
theorem d_G_pop_11 : decode b_G_pop 11 = .ok (.dup, 1) := by decide +kernel
theorem d_G_pop_12 : decode b_G_pop 12 = .ok (.getfield 48, 3) := by decide +kernel
theorem d_G_pop_15 : decode b_G_pop 15 = .ok (.iconst 1, 1) := by decide +kernel
theorem d_G_pop_16 : decode b_G_pop 16 = .ok (.isub, 1) := by decide +kernel
theorem d_G_pop_17 : decode b_G_pop 17 = .ok (.putfield 48, 3) := by decide +kernel
theorem d_G_pop_20 : decode b_G_pop 20 = .ok (.aload_n 0, 1) := by decide +kernel
theorem d_G_pop_21 : decode b_G_pop 21 = .ok (.getfield 27, 3) := by decide +kernel
theorem d_G_pop_24 : decode b_G_pop 24 = .ok (.aload_n 0, 1) := by decide +kernel
theorem d_G_pop_25 : decode b_G_pop 25 = .ok (.getfield 48, 3) := by decide +kernel
theorem d_G_pop_28 : decode b_G_pop 28 = .ok (.invokestatic 81, 3) := by decide +kernel
theorem d_G_pop_31 : decode b_G_pop 31 = .ok (.ireturn, 1) := by decide +kernel
theorem d_G_countIn_0 : decode b_G_countIn 0 = .ok (.iconst 0, 1) := by decide +kernel
theorem d_G_countIn_1 : decode b_G_countIn 1 = .ok (.istore_n 3, 1) := by decide +kernel
theorem d_G_countIn_2 : decode b_G_countIn 2 = .ok (.iconst 0, 1) := by decide +kernel
theorem d_G_countIn_3 : decode b_G_countIn 3 = .ok (.istore 4, 2) := by decide +kernel
theorem d_G_countIn_5 : decode b_G_countIn 5 = .ok (.iload 4, 2) := by decide +kernel
theorem d_G_countIn_7 : decode b_G_countIn 7 = .ok (.aload_n 0, 1) := by decide +kernel
theorem d_G_countIn_8 : decode b_G_countIn 8 = .ok (.getfield 42, 3) := by decide +kernel
theorem d_G_countIn_11 : decode b_G_countIn 11 = .ok (.if_icmp .ge 41, 3) := by decide +kernel
theorem d_G_countIn_14 : decode b_G_countIn 14 = .ok (.aload_n 0, 1) := by decide +kernel
theorem d_G_countIn_15 : decode b_G_countIn 15 = .ok (.getfield 18, 3) := by decide +kernel
theorem d_G_countIn_18 : decode b_G_countIn 18 = .ok (.iload 4, 2) := by decide +kernel
theorem d_G_countIn_20 : decode b_G_countIn 20 = .ok (.invokestatic 81, 3) := by decide +kernel
theorem d_G_countIn_23 : decode b_G_countIn 23 = .ok (.iload_n 2, 1) := by decide +kernel
theorem d_G_countIn_24 : decode b_G_countIn 24 = .ok (.if_icmp .ne 22, 3) := by decide +kernel
theorem d_G_countIn_27 : decode b_G_countIn 27 = .ok (.aload_n 0, 1) := by decide +kernel
theorem d_G_countIn_28 : decode b_G_countIn 28 = .ok (.getfield 34, 3) := by decide +kernel
theorem d_G_countIn_31 : decode b_G_countIn 31 = .ok (.getfield 85, 3) := by decide +kernel
theorem d_G_countIn_34 : decode b_G_countIn 34 = .ok (.iload 4, 2) := by decide +kernel
theorem d_G_countIn_36 : decode b_G_countIn 36 = .ok (.invokestatic 81, 3) := by decide +kernel
theorem d_G_countIn_39 : decode b_G_countIn 39 = .ok (.iload_n 1, 1) := by decide +kernel
theorem d_G_countIn_40 : decode b_G_countIn 40 = .ok (.if_icmp .ne 6, 3) := by decide +kernel
theorem d_G_countIn_43 : decode b_G_countIn 43 = .ok (.iinc 3 1, 3) := by decide +kernel
theorem d_G_countIn_46 : decode b_G_countIn 46 = .ok (.iinc 4 1, 3) := by decide +kernel
theorem d_G_countIn_49 : decode b_G_countIn 49 = .ok (.goto (-44), 3) := by decide +kernel
theorem d_G_countIn_52 : decode b_G_countIn 52 = .ok (.iload_n 3, 1) := by decide +kernel
theorem d_G_countIn_53 : decode b_G_countIn 53 = .ok (.ireturn, 1) := by decide +kernel
theorem d_G_nthIn_0 : decode b_G_nthIn 0 = .ok (.iconst 0, 1) := by decide +kernel
theorem d_G_nthIn_1 : decode b_G_nthIn 1 = .ok (.istore 4, 2) := by decide +kernel
theorem d_G_nthIn_3 : decode b_G_nthIn 3 = .ok (.iconst 0, 1) := by decide +kernel
theorem d_G_nthIn_4 : decode b_G_nthIn 4 = .ok (.istore 5, 2) := by decide +kernel
theorem d_G_nthIn_6 : decode b_G_nthIn 6 = .ok (.iload 5, 2) := by decide +kernel
theorem d_G_nthIn_8 : decode b_G_nthIn 8 = .ok (.aload_n 0, 1) := by decide +kernel
theorem d_G_nthIn_9 : decode b_G_nthIn 9 = .ok (.getfield 42, 3) := by decide +kernel
theorem d_G_nthIn_12 : decode b_G_nthIn 12 = .ok (.if_icmp .ge 50, 3) := by decide +kernel
theorem d_G_nthIn_15 : decode b_G_nthIn 15 = .ok (.aload_n 0, 1) := by decide +kernel
theorem d_G_nthIn_16 : decode b_G_nthIn 16 = .ok (.getfield 18, 3) := by decide +kernel
theorem d_G_nthIn_19 : decode b_G_nthIn 19 = .ok (.iload 5, 2) := by decide +kernel
theorem d_G_nthIn_21 : decode b_G_nthIn 21 = .ok (.invokestatic 81, 3) := by decide +kernel
theorem d_G_nthIn_24 : decode b_G_nthIn 24 = .ok (.iload_n 2, 1) := by decide +kernel
theorem d_G_nthIn_25 : decode b_G_nthIn 25 = .ok (.if_icmp .ne 31, 3) := by decide +kernel
theorem d_G_nthIn_28 : decode b_G_nthIn 28 = .ok (.aload_n 0, 1) := by decide +kernel
theorem d_G_nthIn_29 : decode b_G_nthIn 29 = .ok (.getfield 34, 3) := by decide +kernel
theorem d_G_nthIn_32 : decode b_G_nthIn 32 = .ok (.getfield 85, 3) := by decide +kernel
theorem d_G_nthIn_35 : decode b_G_nthIn 35 = .ok (.iload 5, 2) := by decide +kernel
theorem d_G_nthIn_37 : decode b_G_nthIn 37 = .ok (.invokestatic 81, 3) := by decide +kernel
theorem d_G_nthIn_40 : decode b_G_nthIn 40 = .ok (.iload_n 1, 1) := by decide +kernel
theorem d_G_nthIn_41 : decode b_G_nthIn 41 = .ok (.if_icmp .ne 15, 3) := by decide +kernel
theorem d_G_nthIn_44 : decode b_G_nthIn 44 = .ok (.iload 4, 2) := by decide +kernel
theorem d_G_nthIn_46 : decode b_G_nthIn 46 = .ok (.iload_n 3, 1) := by decide +kernel
theorem d_G_nthIn_47 : decode b_G_nthIn 47 = .ok (.if_icmp .ne 6, 3) := by decide +kernel
theorem d_G_nthIn_50 : decode b_G_nthIn 50 = .ok (.iload 5, 2) := by decide +kernel
theorem d_G_nthIn_52 : decode b_G_nthIn 52 = .ok (.ireturn, 1) := by decide +kernel
theorem d_G_nthIn_53 : decode b_G_nthIn 53 = .ok (.iinc 4 1, 3) := by decide +kernel
theorem d_G_nthIn_56 : decode b_G_nthIn 56 = .ok (.iinc 5 1, 3) := by decide +kernel
theorem d_G_nthIn_59 : decode b_G_nthIn 59 = .ok (.goto (-53), 3) := by decide +kernel
theorem d_G_nthIn_62 : decode b_G_nthIn 62 = .ok (.bipush (-2), 2) := by decide +kernel
theorem d_G_nthIn_64 : decode b_G_nthIn 64 = .ok (.ireturn, 1) := by decide +kernel
theorem d_G_drawOne_0 : decode b_G_drawOne 0 = .ok (.aload_n 0, 1) := by decide +kernel
theorem d_G_drawOne_1 : decode b_G_drawOne 1 = .ok (.iload_n 1, 1) := by decide +kernel
theorem d_G_drawOne_2 : decode b_G_drawOne 2 = .ok (.iconst 0, 1) := by decide +kernel
theorem d_G_drawOne_3 : decode b_G_drawOne 3 = .ok (.invokevirtual 88, 3) := by decide +kernel
theorem d_G_drawOne_6 : decode b_G_drawOne 6 = .ok (.istore_n 2, 1) := by decide +kernel
theorem d_G_drawOne_7 : decode b_G_drawOne 7 = .ok (.iload_n 2, 1) := by decide +kernel
theorem d_G_drawOne_8 : decode b_G_drawOne 8 = .ok (.ifCond .gt 10, 3) := by decide +kernel
theorem d_G_drawOne_11 : decode b_G_drawOne 11 = .ok (.aload_n 0, 1) := by decide +kernel
theorem d_G_drawOne_12 : decode b_G_drawOne 12 = .ok (.iload_n 1, 1) := by decide +kernel
theorem d_G_drawOne_13 : decode b_G_drawOne 13 = .ok (.iconst (-1), 1) := by decide +kernel
theorem d_G_drawOne_14 : decode b_G_drawOne 14 = .ok (.invokevirtual 92, 3) := by decide +kernel
theorem d_G_drawOne_17 : decode b_G_drawOne 17 = .ok (.return_, 1) := by decide +kernel
theorem d_G_drawOne_18 : decode b_G_drawOne 18 = .ok (.aload_n 0, 1) := by decide +kernel
theorem d_G_drawOne_19 : decode b_G_drawOne 19 = .ok (.aload_n 0, 1) := by decide +kernel
theorem d_G_drawOne_20 : decode b_G_drawOne 20 = .ok (.getfield 30, 3) := by decide +kernel
theorem d_G_drawOne_23 : decode b_G_drawOne 23 = .ok (.invokestatic 95, 3) := by decide +kernel
theorem d_G_drawOne_26 : decode b_G_drawOne 26 = .ok (.putfield 30, 3) := by decide +kernel
theorem d_G_drawOne_29 : decode b_G_drawOne 29 = .ok (.aload_n 0, 1) := by decide +kernel
theorem d_G_drawOne_30 : decode b_G_drawOne 30 = .ok (.aload_n 0, 1) := by decide +kernel
theorem d_G_drawOne_31 : decode b_G_drawOne 31 = .ok (.iload_n 1, 1) := by decide +kernel
theorem d_G_drawOne_32 : decode b_G_drawOne 32 = .ok (.iconst 0, 1) := by decide +kernel
theorem d_G_drawOne_33 : decode b_G_drawOne 33 = .ok (.iload_n 2, 1) := by decide +kernel
theorem d_G_drawOne_34 : decode b_G_drawOne 34 = .ok (.aload_n 0, 1) := by decide +kernel
theorem d_G_drawOne_35 : decode b_G_drawOne 35 = .ok (.getfield 30, 3) := by decide +kernel
theorem d_G_drawOne_38 : decode b_G_drawOne 38 = .ok (.invokestatic 99, 3) := by decide +kernel
theorem d_G_drawOne_41 : decode b_G_drawOne 41 = .ok (.invokevirtual 102, 3) := by decide +kernel
theorem d_G_drawOne_44 : decode b_G_drawOne 44 = .ok (.iconst 1, 1) := by decide +kernel
theorem d_G_drawOne_45 : decode b_G_drawOne 45 = .ok (.invokevirtual 77, 3) := by decide +kernel
theorem d_G_drawOne_48 : decode b_G_drawOne 48 = .ok (.return_, 1) := by decide +kernel
theorem d_G_changeLife_0 : decode b_G_changeLife 0 = .ok (.aload_n 0, 1) := by decide +kernel
theorem d_G_changeLife_1 : decode b_G_changeLife 1 = .ok (.getfield 9, 3) := by decide +kernel
theorem d_G_changeLife_4 : decode b_G_changeLife 4 = .ok (.iload_n 1, 1) := by decide +kernel
theorem d_G_changeLife_5 : decode b_G_changeLife 5 = .ok (.aload_n 0, 1) := by decide +kernel
theorem d_G_changeLife_6 : decode b_G_changeLife 6 = .ok (.getfield 9, 3) := by decide +kernel
theorem d_G_changeLife_9 : decode b_G_changeLife 9 = .ok (.iload_n 1, 1) := by decide +kernel
theorem d_G_changeLife_10 : decode b_G_changeLife 10 = .ok (.invokestatic 81, 3) := by decide +kernel
theorem d_G_changeLife_13 : decode b_G_changeLife 13 = .ok (.iload_n 2, 1) := by decide +kernel
theorem d_G_changeLife_14 : decode b_G_changeLife 14 = .ok (.iadd, 1) := by decide +kernel
theorem d_G_changeLife_15 : decode b_G_changeLife 15 = .ok (.bipush (-99), 2) := by decide +kernel
theorem d_G_changeLife_17 : decode b_G_changeLife 17 = .ok (.bipush 99, 2) := by decide +kernel
theorem d_G_changeLife_19 : decode b_G_changeLife 19 = .ok (.invokestatic 106, 3) := by decide +kernel
theorem d_G_changeLife_22 : decode b_G_changeLife 22 = .ok (.invokestatic 69, 3) := by decide +kernel
theorem d_G_changeLife_25 : decode b_G_changeLife 25 = .ok (.return_, 1) := by decide +kernel
theorem d_G_worthTo_0 : decode b_G_worthTo 0 = .ok (.aload_n 0, 1) := by decide +kernel
theorem d_G_worthTo_1 : decode b_G_worthTo 1 = .ok (.getfield 9, 3) := by decide +kernel
theorem d_G_worthTo_4 : decode b_G_worthTo 4 = .ok (.iload_n 1, 1) := by decide +kernel
theorem d_G_worthTo_5 : decode b_G_worthTo 5 = .ok (.invokestatic 81, 3) := by decide +kernel
theorem d_G_worthTo_8 : decode b_G_worthTo 8 = .ok (.aload_n 0, 1) := by decide +kernel
theorem d_G_worthTo_9 : decode b_G_worthTo 9 = .ok (.getfield 9, 3) := by decide +kernel
theorem d_G_worthTo_12 : decode b_G_worthTo 12 = .ok (.iconst 1, 1) := by decide +kernel
theorem d_G_worthTo_13 : decode b_G_worthTo 13 = .ok (.iload_n 1, 1) := by decide +kernel
theorem d_G_worthTo_14 : decode b_G_worthTo 14 = .ok (.isub, 1) := by decide +kernel
theorem d_G_worthTo_15 : decode b_G_worthTo 15 = .ok (.invokestatic 81, 3) := by decide +kernel
theorem d_G_worthTo_18 : decode b_G_worthTo 18 = .ok (.isub, 1) := by decide +kernel
theorem d_G_worthTo_19 : decode b_G_worthTo 19 = .ok (.ireturn, 1) := by decide +kernel
theorem d_G_lostBits_0 : decode b_G_lostBits 0 = .ok (.aload_n 0, 1) := by decide +kernel
theorem d_G_lostBits_1 : decode b_G_lostBits 1 = .ok (.getfield 9, 3) := by decide +kernel
theorem d_G_lostBits_4 : decode b_G_lostBits 4 = .ok (.iconst 0, 1) := by decide +kernel
theorem d_G_lostBits_5 : decode b_G_lostBits 5 = .ok (.invokestatic 81, 3) := by decide +kernel
theorem d_G_lostBits_8 : decode b_G_lostBits 8 = .ok (.ifCond .gt 7, 3) := by decide +kernel
theorem d_G_lostBits_11 : decode b_G_lostBits 11 = .ok (.iconst 1, 1) := by decide +kernel
theorem d_G_lostBits_12 : decode b_G_lostBits 12 = .ok (.goto 4, 3) := by decide +kernel
theorem d_G_lostBits_15 : decode b_G_lostBits 15 = .ok (.iconst 0, 1) := by decide +kernel
theorem d_G_lostBits_16 : decode b_G_lostBits 16 = .ok (.aload_n 0, 1) := by decide +kernel
theorem d_G_lostBits_17 : decode b_G_lostBits 17 = .ok (.getfield 9, 3) := by decide +kernel
theorem d_G_lostBits_20 : decode b_G_lostBits 20 = .ok (.iconst 1, 1) := by decide +kernel
theorem d_G_lostBits_21 : decode b_G_lostBits 21 = .ok (.invokestatic 81, 3) := by decide +kernel
theorem d_G_lostBits_24 : decode b_G_lostBits 24 = .ok (.ifCond .gt 7, 3) := by decide +kernel
theorem d_G_lostBits_27 : decode b_G_lostBits 27 = .ok (.iconst 2, 1) := by decide +kernel
theorem d_G_lostBits_28 : decode b_G_lostBits 28 = .ok (.goto 4, 3) := by decide +kernel
theorem d_G_lostBits_31 : decode b_G_lostBits 31 = .ok (.iconst 0, 1) := by decide +kernel
theorem d_G_lostBits_32 : decode b_G_lostBits 32 = .ok (.ior, 1) := by decide +kernel
theorem d_G_lostBits_33 : decode b_G_lostBits 33 = .ok (.ireturn, 1) := by decide +kernel
theorem d_G_isQuiet_0 : decode b_G_isQuiet 0 = .ok (.aload_n 0, 1) := by decide +kernel
theorem d_G_isQuiet_1 : decode b_G_isQuiet 1 = .ok (.getfield 48, 3) := by decide +kernel
theorem d_G_isQuiet_4 : decode b_G_isQuiet 4 = .ok (.ifCond .ne 14, 3) := by decide +kernel
theorem d_G_isQuiet_7 : decode b_G_isQuiet 7 = .ok (.aload_n 0, 1) := by decide +kernel
theorem d_G_isQuiet_8 : decode b_G_isQuiet 8 = .ok (.invokevirtual 109, 3) := by decide +kernel
theorem d_G_isQuiet_11 : decode b_G_isQuiet 11 = .ok (.ifCond .ne 7, 3) := by decide +kernel
theorem d_G_isQuiet_14 : decode b_G_isQuiet 14 = .ok (.iconst 1, 1) := by decide +kernel
theorem d_G_isQuiet_15 : decode b_G_isQuiet 15 = .ok (.goto 4, 3) := by decide +kernel
theorem d_G_isQuiet_18 : decode b_G_isQuiet 18 = .ok (.iconst 0, 1) := by decide +kernel
theorem d_G_isQuiet_19 : decode b_G_isQuiet 19 = .ok (.ireturn, 1) := by decide +kernel
theorem d_Y_init_0 : decode b_Y_init 0 = .ok (.aload_n 0, 1) := by decide +kernel
theorem d_Y_init_1 : decode b_Y_init 1 = .ok (.invokespecial 3, 3) := by decide +kernel
theorem d_Y_init_4 : decode b_Y_init 4 = .ok (.aload_n 0, 1) := by decide +kernel
theorem d_Y_init_5 : decode b_Y_init 5 = .ok (.iconst 4, 1) := by decide +kernel
theorem d_Y_init_6 : decode b_Y_init 6 = .ok (.newarray .int, 2) := by decide +kernel
theorem d_Y_init_8 : decode b_Y_init 8 = .ok (.putfield 9, 3) := by decide +kernel
theorem d_Y_init_11 : decode b_Y_init 11 = .ok (.aload_n 0, 1) := by decide +kernel
theorem d_Y_init_12 : decode b_Y_init 12 = .ok (.bipush 24, 2) := by decide +kernel
theorem d_Y_init_14 : decode b_Y_init 14 = .ok (.newarray .int, 2) := by decide +kernel
theorem d_Y_init_16 : decode b_Y_init 16 = .ok (.putfield 15, 3) := by decide +kernel
theorem d_Y_init_19 : decode b_Y_init 19 = .ok (.aload_n 0, 1) := by decide +kernel
theorem d_Y_init_20 : decode b_Y_init 20 = .ok (.bipush 24, 2) := by decide +kernel
theorem d_Y_init_22 : decode b_Y_init 22 = .ok (.newarray .int, 2) := by decide +kernel
theorem d_Y_init_24 : decode b_Y_init 24 = .ok (.putfield 18, 3) := by decide +kernel
theorem d_Y_init_27 : decode b_Y_init 27 = .ok (.aload_n 0, 1) := by decide +kernel
theorem d_Y_init_28 : decode b_Y_init 28 = .ok (.iconst 4, 1) := by decide +kernel
theorem d_Y_init_29 : decode b_Y_init 29 = .ok (.newarray .int, 2) := by decide +kernel
theorem d_Y_init_31 : decode b_Y_init 31 = .ok (.putfield 21, 3) := by decide +kernel
theorem d_Y_init_34 : decode b_Y_init 34 = .ok (.aload_n 0, 1) := by decide +kernel
theorem d_Y_init_35 : decode b_Y_init 35 = .ok (.aload_n 1, 1) := by decide +kernel
theorem d_Y_init_36 : decode b_Y_init 36 = .ok (.putfield 24, 3) := by decide +kernel
theorem d_Y_init_39 : decode b_Y_init 39 = .ok (.return_, 1) := by decide +kernel
theorem d_Y_workOut_0 : decode b_Y_workOut 0 = .ok (.aload_n 1, 1) := by decide +kernel
theorem d_Y_workOut_1 : decode b_Y_workOut 1 = .ok (.getfield 28, 3) := by decide +kernel
theorem d_Y_workOut_4 : decode b_Y_workOut 4 = .ok (.aload_n 0, 1) := by decide +kernel
theorem d_Y_workOut_5 : decode b_Y_workOut 5 = .ok (.getfield 9, 3) := by decide +kernel
theorem d_Y_workOut_8 : decode b_Y_workOut 8 = .ok (.invokestatic 33, 3) := by decide +kernel
theorem d_Y_workOut_11 : decode b_Y_workOut 11 = .ok (.aload_n 0, 1) := by decide +kernel
theorem d_Y_workOut_12 : decode b_Y_workOut 12 = .ok (.aload_n 1, 1) := by decide +kernel
theorem d_Y_workOut_13 : decode b_Y_workOut 13 = .ok (.invokevirtual 37, 3) := by decide +kernel
theorem d_Y_workOut_16 : decode b_Y_workOut 16 = .ok (.aload_n 0, 1) := by decide +kernel
theorem d_Y_workOut_17 : decode b_Y_workOut 17 = .ok (.iconst 0, 1) := by decide +kernel
theorem d_Y_workOut_18 : decode b_Y_workOut 18 = .ok (.putfield 41, 3) := by decide +kernel
theorem d_Y_workOut_21 : decode b_Y_workOut 21 = .ok (.aload_n 0, 1) := by decide +kernel
theorem d_Y_workOut_22 : decode b_Y_workOut 22 = .ok (.getfield 45, 3) := by decide +kernel
theorem d_Y_workOut_25 : decode b_Y_workOut 25 = .ok (.istore_n 2, 1) := by decide +kernel
theorem d_Y_workOut_26 : decode b_Y_workOut 26 = .ok (.iload_n 2, 1) := by decide +kernel
theorem d_Y_workOut_27 : decode b_Y_workOut 27 = .ok (.ifCond .le 41, 3) := by decide +kernel
theorem d_Y_workOut_30 : decode b_Y_workOut 30 = .ok (.aload_n 0, 1) := by decide +kernel
theorem d_Y_workOut_31 : decode b_Y_workOut 31 = .ok (.invokevirtual 48, 3) := by decide +kernel
theorem d_Y_workOut_34 : decode b_Y_workOut 34 = .ok (.istore_n 3, 1) := by decide +kernel
theorem d_Y_workOut_35 : decode b_Y_workOut 35 = .ok (.aload_n 0, 1) := by decide +kernel
theorem d_Y_workOut_36 : decode b_Y_workOut 36 = .ok (.getfield 15, 3) := by decide +kernel
theorem d_Y_workOut_39 : decode b_Y_workOut 39 = .ok (.aload_n 0, 1) := by decide +kernel
theorem d_Y_workOut_40 : decode b_Y_workOut 40 = .ok (.getfield 41, 3) := by decide +kernel
theorem d_Y_workOut_43 : decode b_Y_workOut 43 = .ok (.iload_n 3, 1) := by decide +kernel
theorem d_Y_workOut_44 : decode b_Y_workOut 44 = .ok (.invokestatic 52, 3) := by decide +kernel
theorem d_Y_workOut_47 : decode b_Y_workOut 47 = .ok (.aload_n 0, 1) := by decide +kernel
theorem d_Y_workOut_48 : decode b_Y_workOut 48 = .ok (.dup, 1) := by decide +kernel
theorem d_Y_workOut_49 : decode b_Y_workOut 49 = .ok (.getfield 41, 3) := by decide +kernel
theorem d_Y_workOut_52 : decode b_Y_workOut 52 = .ok (.iconst 1, 1) := by decide +kernel
theorem d_Y_workOut_53 : decode b_Y_workOut 53 = .ok (.iadd, 1) := by decide +kernel
theorem d_Y_workOut_54 : decode b_Y_workOut 54 = .ok (.putfield 41, 3) := by decide +kernel
theorem d_Y_workOut_57 : decode b_Y_workOut 57 = .ok (.aload_n 0, 1) := by decide +kernel
theorem d_Y_workOut_58 : decode b_Y_workOut 58 = .ok (.iload_n 3, 1) := by decide +kernel
theorem d_Y_workOut_59 : decode b_Y_workOut 59 = .ok (.invokevirtual 56, 3) := by decide +kernel
theorem d_Y_workOut_62 : decode b_Y_workOut 62 = .ok (.iinc 2 (-1), 3) := by decide +kernel
theorem d_Y_workOut_65 : decode b_Y_workOut 65 = .ok (.goto (-39), 3) := by decide +kernel
theorem d_Y_workOut_68 : decode b_Y_workOut 68 = .ok (.return_, 1) := by decide +kernel
theorem d_Y_gather_0 : decode b_Y_gather 0 = .ok (.aload_n 0, 1) := by decide +kernel
theorem d_Y_gather_1 : decode b_Y_gather 1 = .ok (.iconst 0, 1) := by decide +kernel
theorem d_Y_gather_2 : decode b_Y_gather 2 = .ok (.putfield 45, 3) := by decide +kernel
theorem d_Y_gather_5 : decode b_Y_gather 5 = .ok (.iconst 0, 1) := by decide +kernel
theorem d_Y_gather_6 : decode b_Y_gather 6 = .ok (.istore_n 2, 1) := by decide +kernel
theorem d_Y_gather_7 : decode b_Y_gather 7 = .ok (.iload_n 2, 1) := by decide +kernel
theorem d_Y_gather_8 : decode b_Y_gather 8 = .ok (.aload_n 0, 1) := by decide +kernel
theorem d_Y_gather_9 : decode b_Y_gather 9 = .ok (.getfield 21, 3) := by decide +kernel
theorem d_Y_gather_12 : decode b_Y_gather 12 = .ok (.arraylength, 1) := by decide +kernel
theorem d_Y_gather_13 : decode b_Y_gather 13 = .ok (.if_icmp .ge 16, 3) := by decide +kernel
theorem d_Y_gather_16 : decode b_Y_gather 16 = .ok (.aload_n 0, 1) := by decide +kernel
theorem d_Y_gather_17 : decode b_Y_gather 17 = .ok (.getfield 21, 3) := by decide +kernel
theorem d_Y_gather_20 : decode b_Y_gather 20 = .ok (.iload_n 2, 1) := by decide +kernel
theorem d_Y_gather_21 : decode b_Y_gather 21 = .ok (.iconst 0, 1) := by decide +kernel
theorem d_Y_gather_22 : decode b_Y_gather 22 = .ok (.iastore, 1) := by decide +kernel
theorem d_Y_gather_23 : decode b_Y_gather 23 = .ok (.iinc 2 1, 3) := by decide +kernel
theorem d_Y_gather_26 : decode b_Y_gather 26 = .ok (.goto (-19), 3) := by decide +kernel
theorem d_Y_gather_29 : decode b_Y_gather 29 = .ok (.iconst 0, 1) := by decide +kernel
theorem d_Y_gather_30 : decode b_Y_gather 30 = .ok (.istore_n 2, 1) := by decide +kernel
theorem d_Y_gather_31 : decode b_Y_gather 31 = .ok (.iload_n 2, 1) := by decide +kernel
theorem d_Y_gather_32 : decode b_Y_gather 32 = .ok (.aload_n 1, 1) := by decide +kernel
theorem d_Y_gather_33 : decode b_Y_gather 33 = .ok (.getfield 60, 3) := by decide +kernel
theorem d_Y_gather_36 : decode b_Y_gather 36 = .ok (.if_icmp .ge 64, 3) := by decide +kernel
theorem d_Y_gather_39 : decode b_Y_gather 39 = .ok (.aload_n 1, 1) := by decide +kernel
theorem d_Y_gather_40 : decode b_Y_gather 40 = .ok (.getfield 63, 3) := by decide +kernel
theorem d_Y_gather_43 : decode b_Y_gather 43 = .ok (.iload_n 2, 1) := by decide +kernel
theorem d_Y_gather_44 : decode b_Y_gather 44 = .ok (.invokestatic 66, 3) := by decide +kernel
theorem d_Y_gather_47 : decode b_Y_gather 47 = .ok (.istore_n 3, 1) := by decide +kernel
theorem d_Y_gather_48 : decode b_Y_gather 48 = .ok (.aload_n 0, 1) := by decide +kernel
theorem d_Y_gather_49 : decode b_Y_gather 49 = .ok (.getfield 24, 3) := by decide +kernel
theorem d_Y_gather_52 : decode b_Y_gather 52 = .ok (.getfield 70, 3) := by decide +kernel
theorem d_Y_gather_55 : decode b_Y_gather 55 = .ok (.iload_n 3, 1) := by decide +kernel
theorem d_Y_gather_56 : decode b_Y_gather 56 = .ok (.invokestatic 66, 3) := by decide +kernel
theorem d_Y_gather_59 : decode b_Y_gather 59 = .ok (.invokestatic 75, 3) := by decide +kernel
theorem d_Y_gather_62 : decode b_Y_gather 62 = .ok (.iconst 1, 1) := by decide +kernel
theorem d_Y_gather_63 : decode b_Y_gather 63 = .ok (.if_icmp .ne 31, 3) := by decide +kernel
theorem d_Y_gather_66 : decode b_Y_gather 66 = .ok (.aload_n 0, 1) := by decide +kernel
theorem d_Y_gather_67 : decode b_Y_gather 67 = .ok (.getfield 18, 3) := by decide +kernel
theorem d_Y_gather_70 : decode b_Y_gather 70 = .ok (.aload_n 0, 1) := by decide +kernel
theorem d_Y_gather_71 : decode b_Y_gather 71 = .ok (.getfield 45, 3) := by decide +kernel
theorem d_Y_gather_74 : decode b_Y_gather 74 = .ok (.iload_n 3, 1) := by decide +kernel
theorem d_Y_gather_75 : decode b_Y_gather 75 = .ok (.invokestatic 52, 3) := by decide +kernel
theorem d_Y_gather_78 : decode b_Y_gather 78 = .ok (.aload_n 0, 1) := by decide +kernel
theorem d_Y_gather_79 : decode b_Y_gather 79 = .ok (.dup, 1) := by decide +kernel
theorem d_Y_gather_80 : decode b_Y_gather 80 = .ok (.getfield 45, 3) := by decide +kernel
theorem d_Y_gather_83 : decode b_Y_gather 83 = .ok (.iconst 1, 1) := by decide +kernel
theorem d_Y_gather_84 : decode b_Y_gather 84 = .ok (.iadd, 1) := by decide +kernel
theorem d_Y_gather_85 : decode b_Y_gather 85 = .ok (.putfield 45, 3) := by decide +kernel
theorem d_Y_gather_88 : decode b_Y_gather 88 = .ok (.aload_n 0, 1) := by decide +kernel
theorem d_Y_gather_89 : decode b_Y_gather 89 = .ok (.iload_n 3, 1) := by decide +kernel
theorem d_Y_gather_90 : decode b_Y_gather 90 = .ok (.iconst 1, 1) := by decide +kernel
theorem d_Y_gather_91 : decode b_Y_gather 91 = .ok (.invokevirtual 79, 3) := by decide +kernel
theorem d_Y_gather_94 : decode b_Y_gather 94 = .ok (.iinc 2 1, 3) := by decide +kernel
theorem d_Y_gather_97 : decode b_Y_gather 97 = .ok (.goto (-66), 3) := by decide +kernel
theorem d_Y_gather_100 : decode b_Y_gather 100 = .ok (.return_, 1) := by decide +kernel
theorem d_Y_countOn_0 : decode b_Y_countOn 0 = .ok (.aload_n 0, 1) := by decide +kernel
theorem d_Y_countOn_1 : decode b_Y_countOn 1 = .ok (.getfield 24, 3) := by decide +kernel
theorem d_Y_countOn_4 : decode b_Y_countOn 4 = .ok (.getfield 83, 3) := by decide +kernel
theorem d_Y_countOn_7 : decode b_Y_countOn 7 = .ok (.iload_n 1, 1) := by decide +kernel
theorem d_Y_countOn_8 : decode b_Y_countOn 8 = .ok (.invokestatic 66, 3) := by decide +kernel
theorem d_Y_countOn_11 : decode b_Y_countOn 11 = .ok (.istore_n 3, 1) := by decide +kernel
theorem d_Y_countOn_12 : decode b_Y_countOn 12 = .ok (.aload_n 0, 1) := by decide +kernel
theorem d_Y_countOn_13 : decode b_Y_countOn 13 = .ok (.getfield 21, 3) := by decide +kernel
theorem d_Y_countOn_16 : decode b_Y_countOn 16 = .ok (.iload_n 3, 1) := by decide +kernel
theorem d_Y_countOn_17 : decode b_Y_countOn 17 = .ok (.aload_n 0, 1) := by decide +kernel
theorem d_Y_countOn_18 : decode b_Y_countOn 18 = .ok (.getfield 21, 3) := by decide +kernel
theorem d_Y_countOn_21 : decode b_Y_countOn 21 = .ok (.iload_n 3, 1) := by decide +kernel
theorem d_Y_countOn_22 : decode b_Y_countOn 22 = .ok (.invokestatic 66, 3) := by decide +kernel
theorem d_Y_countOn_25 : decode b_Y_countOn 25 = .ok (.iload_n 2, 1) := by decide +kernel
theorem d_Y_countOn_26 : decode b_Y_countOn 26 = .ok (.iadd, 1) := by decide +kernel
theorem d_Y_countOn_27 : decode b_Y_countOn 27 = .ok (.invokestatic 52, 3) := by decide +kernel
theorem d_Y_countOn_30 : decode b_Y_countOn 30 = .ok (.return_, 1) := by decide +kernel
theorem d_Y_takeNext_0 : decode b_Y_takeNext 0 = .ok (.iconst 0, 1) := by decide +kernel
theorem d_Y_takeNext_1 : decode b_Y_takeNext 1 = .ok (.istore_n 1, 1) := by decide +kernel
theorem d_Y_takeNext_2 : decode b_Y_takeNext 2 = .ok (.iload_n 1, 1) := by decide +kernel
theorem d_Y_takeNext_3 : decode b_Y_takeNext 3 = .ok (.aload_n 0, 1) := by decide +kernel
theorem d_Y_takeNext_4 : decode b_Y_takeNext 4 = .ok (.getfield 45, 3) := by decide +kernel
theorem d_Y_takeNext_7 : decode b_Y_takeNext 7 = .ok (.if_icmp .ge 24, 3) := by decide +kernel
theorem d_Y_takeNext_10 : decode b_Y_takeNext 10 = .ok (.aload_n 0, 1) := by decide +kernel
theorem d_Y_takeNext_11 : decode b_Y_takeNext 11 = .ok (.aload_n 0, 1) := by decide +kernel
theorem d_Y_takeNext_12 : decode b_Y_takeNext 12 = .ok (.getfield 18, 3) := by decide +kernel
theorem d_Y_takeNext_15 : decode b_Y_takeNext 15 = .ok (.iload_n 1, 1) := by decide +kernel
theorem d_Y_takeNext_16 : decode b_Y_takeNext 16 = .ok (.invokestatic 66, 3) := by decide +kernel
theorem d_Y_takeNext_19 : decode b_Y_takeNext 19 = .ok (.invokevirtual 86, 3) := by decide +kernel
theorem d_Y_takeNext_22 : decode b_Y_takeNext 22 = .ok (.ifCond .eq 9, 3) := by decide +kernel
theorem d_Y_takeNext_25 : decode b_Y_takeNext 25 = .ok (.iinc 1 1, 3) := by decide +kernel
theorem d_Y_takeNext_28 : decode b_Y_takeNext 28 = .ok (.goto (-26), 3) := by decide +kernel
theorem d_Y_takeNext_31 : decode b_Y_takeNext 31 = .ok (.iload_n 1, 1) := by decide +kernel
theorem d_Y_takeNext_32 : decode b_Y_takeNext 32 = .ok (.aload_n 0, 1) := by decide +kernel
theorem d_Y_takeNext_33 : decode b_Y_takeNext 33 = .ok (.getfield 45, 3) := by decide +kernel
theorem d_Y_takeNext_36 : decode b_Y_takeNext 36 = .ok (.if_icmp .lt 5, 3) := by decide +kernel
theorem d_Y_takeNext_39 : decode b_Y_takeNext 39 = .ok (.iconst 0, 1) := by decide +kernel
theorem d_Y_takeNext_40 : decode b_Y_takeNext 40 = .ok (.istore_n 1, 1) := by decide +kernel
theorem d_Y_takeNext_41 : decode b_Y_takeNext 41 = .ok (.aload_n 0, 1) := by decide +kernel
theorem d_Y_takeNext_42 : decode b_Y_takeNext 42 = .ok (.getfield 18, 3) := by decide +kernel
theorem d_Y_takeNext_45 : decode b_Y_takeNext 45 = .ok (.iload_n 1, 1) := by decide +kernel
theorem d_Y_takeNext_46 : decode b_Y_takeNext 46 = .ok (.invokestatic 66, 3) := by decide +kernel
theorem d_Y_takeNext_49 : decode b_Y_takeNext 49 = .ok (.istore_n 2, 1) := by decide +kernel
theorem d_Y_takeNext_50 : decode b_Y_takeNext 50 = .ok (.iload_n 1, 1) := by decide +kernel
theorem d_Y_takeNext_51 : decode b_Y_takeNext 51 = .ok (.iconst 1, 1) := by decide +kernel
theorem d_Y_takeNext_52 : decode b_Y_takeNext 52 = .ok (.iadd, 1) := by decide +kernel
theorem d_Y_takeNext_53 : decode b_Y_takeNext 53 = .ok (.istore_n 3, 1) := by decide +kernel
theorem d_Y_takeNext_54 : decode b_Y_takeNext 54 = .ok (.iload_n 3, 1) := by decide +kernel
theorem d_Y_takeNext_55 : decode b_Y_takeNext 55 = .ok (.aload_n 0, 1) := by decide +kernel
theorem d_Y_takeNext_56 : decode b_Y_takeNext 56 = .ok (.getfield 45, 3) := by decide +kernel
theorem d_Y_takeNext_59 : decode b_Y_takeNext 59 = .ok (.if_icmp .ge 27, 3) := by decide +kernel
theorem d_Y_takeNext_62 : decode b_Y_takeNext 62 = .ok (.aload_n 0, 1) := by decide +kernel
theorem d_Y_takeNext_63 : decode b_Y_takeNext 63 = .ok (.getfield 18, 3) := by decide +kernel
theorem d_Y_takeNext_66 : decode b_Y_takeNext 66 = .ok (.iload_n 3, 1) := by decide +kernel
theorem d_Y_takeNext_67 : decode b_Y_takeNext 67 = .ok (.iconst 1, 1) := by decide +kernel
theorem d_Y_takeNext_68 : decode b_Y_takeNext 68 = .ok (.isub, 1) := by decide +kernel
theorem d_Y_takeNext_69 : decode b_Y_takeNext 69 = .ok (.aload_n 0, 1) := by decide +kernel
theorem d_Y_takeNext_70 : decode b_Y_takeNext 70 = .ok (.getfield 18, 3) := by decide +kernel
theorem d_Y_takeNext_73 : decode b_Y_takeNext 73 = .ok (.iload_n 3, 1) := by decide +kernel
theorem d_Y_takeNext_74 : decode b_Y_takeNext 74 = .ok (.invokestatic 66, 3) := by decide +kernel
theorem d_Y_takeNext_77 : decode b_Y_takeNext 77 = .ok (.invokestatic 52, 3) := by decide +kernel
theorem d_Y_takeNext_80 : decode b_Y_takeNext 80 = .ok (.iinc 3 1, 3) := by decide +kernel
theorem d_Y_takeNext_83 : decode b_Y_takeNext 83 = .ok (.goto (-29), 3) := by decide +kernel
theorem d_Y_takeNext_86 : decode b_Y_takeNext 86 = .ok (.aload_n 0, 1) := by decide +kernel
theorem d_Y_takeNext_87 : decode b_Y_takeNext 87 = .ok (.dup, 1) := by decide +kernel
theorem d_Y_takeNext_88 : decode b_Y_takeNext 88 = .ok (.getfield 45, 3) := by decide +kernel
theorem d_Y_takeNext_91 : decode b_Y_takeNext 91 = .ok (.iconst 1, 1) := by decide +kernel
theorem d_Y_takeNext_92 : decode b_Y_takeNext 92 = .ok (.isub, 1) := by decide +kernel
theorem d_Y_takeNext_93 : decode b_Y_takeNext 93 = .ok (.putfield 45, 3) := by decide +kernel
theorem d_Y_takeNext_96 : decode b_Y_takeNext 96 = .ok (.aload_n 0, 1) := by decide +kernel
theorem d_Y_takeNext_97 : decode b_Y_takeNext 97 = .ok (.iload_n 2, 1) := by decide +kernel
theorem d_Y_takeNext_98 : decode b_Y_takeNext 98 = .ok (.iconst (-1), 1) := by decide +kernel
theorem d_Y_takeNext_99 : decode b_Y_takeNext 99 = .ok (.invokevirtual 79, 3) := by decide +kernel
theorem d_Y_takeNext_102 : decode b_Y_takeNext 102 = .ok (.iload_n 2, 1) := by decide +kernel
theorem d_Y_takeNext_103 : decode b_Y_takeNext 103 = .ok (.ireturn, 1) := by decide +kernel
theorem d_Y_waits_0 : decode b_Y_waits 0 = .ok (.aload_n 0, 1) := by decide +kernel
theorem d_Y_waits_1 : decode b_Y_waits 1 = .ok (.getfield 24, 3) := by decide +kernel
theorem d_Y_waits_4 : decode b_Y_waits 4 = .ok (.getfield 70, 3) := by decide +kernel
theorem d_Y_waits_7 : decode b_Y_waits 7 = .ok (.iload_n 1, 1) := by decide +kernel
theorem d_Y_waits_8 : decode b_Y_waits 8 = .ok (.invokestatic 66, 3) := by decide +kernel
theorem d_Y_waits_11 : decode b_Y_waits 11 = .ok (.invokestatic 90, 3) := by decide +kernel
theorem d_Y_waits_14 : decode b_Y_waits 14 = .ok (.ifCond .ne 5, 3) := by decide +kernel
theorem d_Y_waits_17 : decode b_Y_waits 17 = .ok (.iconst 0, 1) := by decide +kernel
theorem d_Y_waits_18 : decode b_Y_waits 18 = .ok (.ireturn, 1) := by decide +kernel
theorem d_Y_waits_19 : decode b_Y_waits 19 = .ok (.aload_n 0, 1) := by decide +kernel
theorem d_Y_waits_20 : decode b_Y_waits 20 = .ok (.getfield 24, 3) := by decide +kernel
theorem d_Y_waits_23 : decode b_Y_waits 23 = .ok (.getfield 93, 3) := by decide +kernel
theorem d_Y_waits_26 : decode b_Y_waits 26 = .ok (.iload_n 1, 1) := by decide +kernel
theorem d_Y_waits_27 : decode b_Y_waits 27 = .ok (.invokestatic 66, 3) := by decide +kernel
theorem d_Y_waits_30 : decode b_Y_waits 30 = .ok (.istore_n 2, 1) := by decide +kernel
theorem d_Y_waits_31 : decode b_Y_waits 31 = .ok (.aload_n 0, 1) := by decide +kernel
theorem d_Y_waits_32 : decode b_Y_waits 32 = .ok (.getfield 24, 3) := by decide +kernel
theorem d_Y_waits_35 : decode b_Y_waits 35 = .ok (.getfield 83, 3) := by decide +kernel
theorem d_Y_waits_38 : decode b_Y_waits 38 = .ok (.iload_n 1, 1) := by decide +kernel
theorem d_Y_waits_39 : decode b_Y_waits 39 = .ok (.invokestatic 66, 3) := by decide +kernel
theorem d_Y_waits_42 : decode b_Y_waits 42 = .ok (.iload_n 2, 1) := by decide +kernel
theorem d_Y_waits_43 : decode b_Y_waits 43 = .ok (.if_icmp .ne 7, 3) := by decide +kernel
theorem d_Y_waits_46 : decode b_Y_waits 46 = .ok (.iconst 1, 1) := by decide +kernel
theorem d_Y_waits_47 : decode b_Y_waits 47 = .ok (.goto 4, 3) := by decide +kernel
theorem d_Y_waits_50 : decode b_Y_waits 50 = .ok (.iconst 0, 1) := by decide +kernel
theorem d_Y_waits_51 : decode b_Y_waits 51 = .ok (.istore_n 3, 1) := by decide +kernel
theorem d_Y_waits_52 : decode b_Y_waits 52 = .ok (.aload_n 0, 1) := by decide +kernel
theorem d_Y_waits_53 : decode b_Y_waits 53 = .ok (.getfield 21, 3) := by decide +kernel
theorem d_Y_waits_56 : decode b_Y_waits 56 = .ok (.iload_n 2, 1) := by decide +kernel
theorem d_Y_waits_57 : decode b_Y_waits 57 = .ok (.invokestatic 66, 3) := by decide +kernel
theorem d_Y_waits_60 : decode b_Y_waits 60 = .ok (.iload_n 3, 1) := by decide +kernel
theorem d_Y_waits_61 : decode b_Y_waits 61 = .ok (.if_icmp .le 7, 3) := by decide +kernel
theorem d_Y_waits_64 : decode b_Y_waits 64 = .ok (.iconst 1, 1) := by decide +kernel
theorem d_Y_waits_65 : decode b_Y_waits 65 = .ok (.goto 4, 3) := by decide +kernel
theorem d_Y_waits_68 : decode b_Y_waits 68 = .ok (.iconst 0, 1) := by decide +kernel
theorem d_Y_waits_69 : decode b_Y_waits 69 = .ok (.ireturn, 1) := by decide +kernel
theorem d_Y_use_0 : decode b_Y_use 0 = .ok (.aload_n 0, 1) := by decide +kernel
theorem d_Y_use_1 : decode b_Y_use 1 = .ok (.getfield 24, 3) := by decide +kernel
theorem d_Y_use_4 : decode b_Y_use 4 = .ok (.getfield 83, 3) := by decide +kernel
theorem d_Y_use_7 : decode b_Y_use 7 = .ok (.iload_n 1, 1) := by decide +kernel
theorem d_Y_use_8 : decode b_Y_use 8 = .ok (.invokestatic 66, 3) := by decide +kernel
theorem d_Y_use_11 : decode b_Y_use 11 = .ok (.istore_n 2, 1) := by decide +kernel
theorem d_Y_use_12 : decode b_Y_use 12 = .ok (.aload_n 0, 1) := by decide +kernel
theorem d_Y_use_13 : decode b_Y_use 13 = .ok (.getfield 9, 3) := by decide +kernel
theorem d_Y_use_16 : decode b_Y_use 16 = .ok (.iload_n 2, 1) := by decide +kernel
theorem d_Y_use_17 : decode b_Y_use 17 = .ok (.invokestatic 66, 3) := by decide +kernel
theorem d_Y_use_20 : decode b_Y_use 20 = .ok (.istore_n 3, 1) := by decide +kernel
theorem d_Y_use_21 : decode b_Y_use 21 = .ok (.aload_n 0, 1) := by decide +kernel
theorem d_Y_use_22 : decode b_Y_use 22 = .ok (.getfield 9, 3) := by decide +kernel
theorem d_Y_use_25 : decode b_Y_use 25 = .ok (.aload_n 0, 1) := by decide +kernel
theorem d_Y_use_26 : decode b_Y_use 26 = .ok (.getfield 24, 3) := by decide +kernel
theorem d_Y_use_29 : decode b_Y_use 29 = .ok (.getfield 93, 3) := by decide +kernel
theorem d_Y_use_32 : decode b_Y_use 32 = .ok (.iload_n 1, 1) := by decide +kernel
theorem d_Y_use_33 : decode b_Y_use 33 = .ok (.invokestatic 66, 3) := by decide +kernel
theorem d_Y_use_36 : decode b_Y_use 36 = .ok (.invokestatic 66, 3) := by decide +kernel
theorem d_Y_use_39 : decode b_Y_use 39 = .ok (.istore 4, 2) := by decide +kernel
theorem d_Y_use_41 : decode b_Y_use 41 = .ok (.aload_n 0, 1) := by decide +kernel
theorem d_Y_use_42 : decode b_Y_use 42 = .ok (.getfield 9, 3) := by decide +kernel
theorem d_Y_use_45 : decode b_Y_use 45 = .ok (.iload_n 2, 1) := by decide +kernel
theorem d_Y_use_46 : decode b_Y_use 46 = .ok (.aload_n 0, 1) := by decide +kernel
theorem d_Y_use_47 : decode b_Y_use 47 = .ok (.getfield 24, 3) := by decide +kernel
theorem d_Y_use_50 : decode b_Y_use 50 = .ok (.getfield 70, 3) := by decide +kernel
theorem d_Y_use_53 : decode b_Y_use 53 = .ok (.iload_n 1, 1) := by decide +kernel
theorem d_Y_use_54 : decode b_Y_use 54 = .ok (.invokestatic 66, 3) := by decide +kernel
theorem d_Y_use_57 : decode b_Y_use 57 = .ok (.aload_n 0, 1) := by decide +kernel
theorem d_Y_use_58 : decode b_Y_use 58 = .ok (.getfield 24, 3) := by decide +kernel
theorem d_Y_use_61 : decode b_Y_use 61 = .ok (.getfield 96, 3) := by decide +kernel
theorem d_Y_use_64 : decode b_Y_use 64 = .ok (.iload_n 1, 1) := by decide +kernel
theorem d_Y_use_65 : decode b_Y_use 65 = .ok (.invokestatic 66, 3) := by decide +kernel
theorem d_Y_use_68 : decode b_Y_use 68 = .ok (.iload_n 3, 1) := by decide +kernel
theorem d_Y_use_69 : decode b_Y_use 69 = .ok (.iload 4, 2) := by decide +kernel
theorem d_Y_use_71 : decode b_Y_use 71 = .ok (.invokestatic 99, 3) := by decide +kernel
theorem d_Y_use_74 : decode b_Y_use 74 = .ok (.invokestatic 52, 3) := by decide +kernel
theorem d_Y_use_77 : decode b_Y_use 77 = .ok (.return_, 1) := by decide +kernel
theorem d_O_init_0 : decode b_O_init 0 = .ok (.aload_n 0, 1) := by decide +kernel
theorem d_O_init_1 : decode b_O_init 1 = .ok (.invokespecial 3, 3) := by decide +kernel
theorem d_O_init_4 : decode b_O_init 4 = .ok (.aload_n 0, 1) := by decide +kernel
theorem d_O_init_5 : decode b_O_init 5 = .ok (.bipush 40, 2) := by decide +kernel
theorem d_O_init_7 : decode b_O_init 7 = .ok (.newarray .int, 2) := by decide +kernel
theorem d_O_init_9 : decode b_O_init 9 = .ok (.putfield 9, 3) := by decide +kernel
theorem d_O_init_12 : decode b_O_init 12 = .ok (.aload_n 0, 1) := by decide +kernel
theorem d_O_init_13 : decode b_O_init 13 = .ok (.bipush 40, 2) := by decide +kernel
theorem d_O_init_15 : decode b_O_init 15 = .ok (.newarray .int, 2) := by decide +kernel
theorem d_O_init_17 : decode b_O_init 17 = .ok (.putfield 15, 3) := by decide +kernel
theorem d_O_init_20 : decode b_O_init 20 = .ok (.return_, 1) := by decide +kernel
theorem d_O_empty_0 : decode b_O_empty 0 = .ok (.aload_n 0, 1) := by decide +kernel
theorem d_O_empty_1 : decode b_O_empty 1 = .ok (.iconst 0, 1) := by decide +kernel
theorem d_O_empty_2 : decode b_O_empty 2 = .ok (.putfield 18, 3) := by decide +kernel
theorem d_O_empty_5 : decode b_O_empty 5 = .ok (.aload_n 0, 1) := by decide +kernel
theorem d_O_empty_6 : decode b_O_empty 6 = .ok (.iconst 0, 1) := by decide +kernel
theorem d_O_empty_7 : decode b_O_empty 7 = .ok (.putfield 22, 3) := by decide +kernel
theorem d_O_empty_10 : decode b_O_empty 10 = .ok (.return_, 1) := by decide +kernel
theorem d_O_addThing_0 : decode b_O_addThing 0 = .ok (.aload_n 0, 1) := by decide +kernel
theorem d_O_addThing_1 : decode b_O_addThing 1 = .ok (.getfield 18, 3) := by decide +kernel
theorem d_O_addThing_4 : decode b_O_addThing 4 = .ok (.bipush 40, 2) := by decide +kernel
theorem d_O_addThing_6 : decode b_O_addThing 6 = .ok (.if_icmp .ge 25, 3) := by decide +kernel
theorem d_O_addThing_9 : decode b_O_addThing 9 = .ok (.aload_n 0, 1) := by decide +kernel
theorem d_O_addThing_10 : decode b_O_addThing 10 = .ok (.getfield 9, 3) := by decide +kernel
theorem d_O_addThing_13 : decode b_O_addThing 13 = .ok (.aload_n 0, 1) := by decide +kernel
theorem d_O_addThing_14 : decode b_O_addThing 14 = .ok (.getfield 18, 3) := by decide +kernel
theorem d_O_addThing_17 : decode b_O_addThing 17 = .ok (.iload_n 1, 1) := by decide +kernel
theorem d_O_addThing_18 : decode b_O_addThing 18 = .ok (.invokestatic 25, 3) := by decide +kernel
theorem d_O_addThing_21 : decode b_O_addThing 21 = .ok (.aload_n 0, 1) := by decide +kernel
theorem d_O_addThing_22 : decode b_O_addThing 22 = .ok (.dup, 1) := by decide +kernel
theorem d_O_addThing_23 : decode b_O_addThing 23 = .ok (.getfield 18, 3) := by decide +kernel
theorem d_O_addThing_26 : decode b_O_addThing 26 = .ok (.iconst 1, 1) := by decide +kernel
theorem d_O_addThing_27 : decode b_O_addThing 27 = .ok (.iadd, 1) := by decide +kernel
theorem d_O_addThing_28 : decode b_O_addThing 28 = .ok (.putfield 18, 3) := by decide +kernel
theorem d_O_addThing_31 : decode b_O_addThing 31 = .ok (.return_, 1) := by decide +kernel
theorem d_O_addEvent_0 : decode b_O_addEvent 0 = .ok (.aload_n 0, 1) := by decide +kernel
theorem d_O_addEvent_1 : decode b_O_addEvent 1 = .ok (.getfield 22, 3) := by decide +kernel
theorem d_O_addEvent_4 : decode b_O_addEvent 4 = .ok (.bipush 40, 2) := by decide +kernel
theorem d_O_addEvent_6 : decode b_O_addEvent 6 = .ok (.if_icmp .ge 25, 3) := by decide +kernel
theorem d_O_addEvent_9 : decode b_O_addEvent 9 = .ok (.aload_n 0, 1) := by decide +kernel
theorem d_O_addEvent_10 : decode b_O_addEvent 10 = .ok (.getfield 15, 3) := by decide +kernel
theorem d_O_addEvent_13 : decode b_O_addEvent 13 = .ok (.aload_n 0, 1) := by decide +kernel
theorem d_O_addEvent_14 : decode b_O_addEvent 14 = .ok (.getfield 22, 3) := by decide +kernel
theorem d_O_addEvent_17 : decode b_O_addEvent 17 = .ok (.iload_n 1, 1) := by decide +kernel
theorem d_O_addEvent_18 : decode b_O_addEvent 18 = .ok (.invokestatic 25, 3) := by decide +kernel
theorem d_O_addEvent_21 : decode b_O_addEvent 21 = .ok (.aload_n 0, 1) := by decide +kernel
theorem d_O_addEvent_22 : decode b_O_addEvent 22 = .ok (.dup, 1) := by decide +kernel
theorem d_O_addEvent_23 : decode b_O_addEvent 23 = .ok (.getfield 22, 3) := by decide +kernel
theorem d_O_addEvent_26 : decode b_O_addEvent 26 = .ok (.iconst 1, 1) := by decide +kernel
theorem d_O_addEvent_27 : decode b_O_addEvent 27 = .ok (.iadd, 1) := by decide +kernel
theorem d_O_addEvent_28 : decode b_O_addEvent 28 = .ok (.putfield 22, 3) := by decide +kernel
theorem d_O_addEvent_31 : decode b_O_addEvent 31 = .ok (.return_, 1) := by decide +kernel
theorem d_P_init_0 : decode b_P_init 0 = .ok (.aload_n 0, 1) := by decide +kernel
theorem d_P_init_1 : decode b_P_init 1 = .ok (.invokespecial 3, 3) := by decide +kernel
theorem d_P_init_4 : decode b_P_init 4 = .ok (.aload_n 0, 1) := by decide +kernel
theorem d_P_init_5 : decode b_P_init 5 = .ok (.sipush 201, 3) := by decide +kernel
theorem d_P_init_8 : decode b_P_init 8 = .ok (.newarray .int, 2) := by decide +kernel
theorem d_P_init_10 : decode b_P_init 10 = .ok (.putfield 9, 3) := by decide +kernel
theorem d_P_init_13 : decode b_P_init 13 = .ok (.aload_n 0, 1) := by decide +kernel
theorem d_P_init_14 : decode b_P_init 14 = .ok (.sipush 201, 3) := by decide +kernel
theorem d_P_init_17 : decode b_P_init 17 = .ok (.newarray .int, 2) := by decide +kernel
theorem d_P_init_19 : decode b_P_init 19 = .ok (.putfield 15, 3) := by decide +kernel
theorem d_P_init_22 : decode b_P_init 22 = .ok (.aload_n 0, 1) := by decide +kernel
theorem d_P_init_23 : decode b_P_init 23 = .ok (.sipush 201, 3) := by decide +kernel
theorem d_P_init_26 : decode b_P_init 26 = .ok (.newarray .int, 2) := by decide +kernel
theorem d_P_init_28 : decode b_P_init 28 = .ok (.putfield 18, 3) := by decide +kernel
theorem d_P_init_31 : decode b_P_init 31 = .ok (.aload_n 0, 1) := by decide +kernel
theorem d_P_init_32 : decode b_P_init 32 = .ok (.sipush 201, 3) := by decide +kernel
theorem d_P_init_35 : decode b_P_init 35 = .ok (.newarray .int, 2) := by decide +kernel
theorem d_P_init_37 : decode b_P_init 37 = .ok (.putfield 21, 3) := by decide +kernel
theorem d_P_init_40 : decode b_P_init 40 = .ok (.aload_n 0, 1) := by decide +kernel
theorem d_P_init_41 : decode b_P_init 41 = .ok (.sipush 3216, 3) := by decide +kernel
theorem d_P_init_44 : decode b_P_init 44 = .ok (.newarray .long, 2) := by decide +kernel
theorem d_P_init_46 : decode b_P_init 46 = .ok (.putfield 24, 3) := by decide +kernel
theorem d_P_init_49 : decode b_P_init 49 = .ok (.return_, 1) := by decide +kernel
theorem d_P_keep_0 : decode b_P_keep 0 = .ok (.aload_n 0, 1) := by decide +kernel
theorem d_P_keep_1 : decode b_P_keep 1 = .ok (.getfield 9, 3) := by decide +kernel
theorem d_P_keep_4 : decode b_P_keep 4 = .ok (.iload_n 1, 1) := by decide +kernel
theorem d_P_keep_5 : decode b_P_keep 5 = .ok (.aload_n 2, 1) := by decide +kernel
theorem d_P_keep_6 : decode b_P_keep 6 = .ok (.getfield 28, 3) := by decide +kernel
theorem d_P_keep_9 : decode b_P_keep 9 = .ok (.invokestatic 33, 3) := by decide +kernel
theorem d_P_keep_12 : decode b_P_keep 12 = .ok (.aload_n 0, 1) := by decide +kernel
theorem d_P_keep_13 : decode b_P_keep 13 = .ok (.getfield 15, 3) := by decide +kernel
theorem d_P_keep_16 : decode b_P_keep 16 = .ok (.iload_n 1, 1) := by decide +kernel
theorem d_P_keep_17 : decode b_P_keep 17 = .ok (.aload_n 2, 1) := by decide +kernel
theorem d_P_keep_18 : decode b_P_keep 18 = .ok (.getfield 37, 3) := by decide +kernel
theorem d_P_keep_21 : decode b_P_keep 21 = .ok (.iconst 0, 1) := by decide +kernel
theorem d_P_keep_22 : decode b_P_keep 22 = .ok (.invokestatic 40, 3) := by decide +kernel
theorem d_P_keep_25 : decode b_P_keep 25 = .ok (.invokestatic 33, 3) := by decide +kernel
theorem d_P_keep_28 : decode b_P_keep 28 = .ok (.aload_n 0, 1) := by decide +kernel
theorem d_P_keep_29 : decode b_P_keep 29 = .ok (.getfield 18, 3) := by decide +kernel
theorem d_P_keep_32 : decode b_P_keep 32 = .ok (.iload_n 1, 1) := by decide +kernel
theorem d_P_keep_33 : decode b_P_keep 33 = .ok (.aload_n 2, 1) := by decide +kernel
theorem d_P_keep_34 : decode b_P_keep 34 = .ok (.getfield 37, 3) := by decide +kernel
theorem d_P_keep_37 : decode b_P_keep 37 = .ok (.iconst 1, 1) := by decide +kernel
theorem d_P_keep_38 : decode b_P_keep 38 = .ok (.invokestatic 40, 3) := by decide +kernel
theorem d_P_keep_41 : decode b_P_keep 41 = .ok (.invokestatic 33, 3) := by decide +kernel
theorem d_P_keep_44 : decode b_P_keep 44 = .ok (.aload_n 0, 1) := by decide +kernel
theorem d_P_keep_45 : decode b_P_keep 45 = .ok (.getfield 21, 3) := by decide +kernel
theorem d_P_keep_48 : decode b_P_keep 48 = .ok (.iload_n 1, 1) := by decide +kernel
theorem d_P_keep_49 : decode b_P_keep 49 = .ok (.aload_n 2, 1) := by decide +kernel
theorem d_P_keep_50 : decode b_P_keep 50 = .ok (.getfield 44, 3) := by decide +kernel
theorem d_P_keep_53 : decode b_P_keep 53 = .ok (.invokestatic 33, 3) := by decide +kernel
theorem d_P_keep_56 : decode b_P_keep 56 = .ok (.iconst 0, 1) := by decide +kernel
theorem d_P_keep_57 : decode b_P_keep 57 = .ok (.istore_n 3, 1) := by decide +kernel
theorem d_P_keep_58 : decode b_P_keep 58 = .ok (.iload_n 3, 1) := by decide +kernel
theorem d_P_keep_59 : decode b_P_keep 59 = .ok (.aload_n 2, 1) := by decide +kernel
theorem d_P_keep_60 : decode b_P_keep 60 = .ok (.getfield 44, 3) := by decide +kernel
theorem d_P_keep_63 : decode b_P_keep 63 = .ok (.if_icmp .ge 75, 3) := by decide +kernel
theorem d_P_keep_66 : decode b_P_keep 66 = .ok (.iload_n 1, 1) := by decide +kernel
theorem d_P_keep_67 : decode b_P_keep 67 = .ok (.bipush 16, 2) := by decide +kernel
theorem d_P_keep_69 : decode b_P_keep 69 = .ok (.imul, 1) := by decide +kernel
theorem d_P_keep_70 : decode b_P_keep 70 = .ok (.iload_n 3, 1) := by decide +kernel
theorem d_P_keep_71 : decode b_P_keep 71 = .ok (.iconst 4, 1) := by decide +kernel
theorem d_P_keep_72 : decode b_P_keep 72 = .ok (.idiv, 1) := by decide +kernel
theorem d_P_keep_73 : decode b_P_keep 73 = .ok (.iadd, 1) := by decide +kernel
theorem d_P_keep_74 : decode b_P_keep 74 = .ok (.istore 4, 2) := by decide +kernel
theorem d_P_keep_76 : decode b_P_keep 76 = .ok (.iload 4, 2) := by decide +kernel
theorem d_P_keep_78 : decode b_P_keep 78 = .ok (.ifCond .lt 54, 3) := by decide +kernel
theorem d_P_keep_81 : decode b_P_keep 81 = .ok (.iload 4, 2) := by decide +kernel
theorem d_P_keep_83 : decode b_P_keep 83 = .ok (.aload_n 0, 1) := by decide +kernel
theorem d_P_keep_84 : decode b_P_keep 84 = .ok (.getfield 24, 3) := by decide +kernel
theorem d_P_keep_87 : decode b_P_keep 87 = .ok (.arraylength, 1) := by decide +kernel
theorem d_P_keep_88 : decode b_P_keep 88 = .ok (.if_icmp .ge 44, 3) := by decide +kernel
theorem d_P_keep_91 : decode b_P_keep 91 = .ok (.iload_n 3, 1) := by decide +kernel
theorem d_P_keep_92 : decode b_P_keep 92 = .ok (.iconst 4, 1) := by decide +kernel
theorem d_P_keep_93 : decode b_P_keep 93 = .ok (.irem, 1) := by decide +kernel
theorem d_P_keep_94 : decode b_P_keep 94 = .ok (.ifCond .ne 7, 3) := by decide +kernel
theorem d_P_keep_97 : decode b_P_keep 97 = .ok (.lconst 0, 1) := by decide +kernel
theorem d_P_keep_98 : decode b_P_keep 98 = .ok (.goto 10, 3) := by decide +kernel
theorem d_P_keep_101 : decode b_P_keep 101 = .ok (.aload_n 0, 1) := by decide +kernel
theorem d_P_keep_102 : decode b_P_keep 102 = .ok (.getfield 24, 3) := by decide +kernel
theorem d_P_keep_105 : decode b_P_keep 105 = .ok (.iload 4, 2) := by decide +kernel
theorem d_P_keep_107 : decode b_P_keep 107 = .ok (.laload, 1) := by decide +kernel
theorem d_P_keep_108 : decode b_P_keep 108 = .ok (.lstore 5, 2) := by decide +kernel
theorem d_P_keep_110 : decode b_P_keep 110 = .ok (.aload_n 0, 1) := by decide +kernel
theorem d_P_keep_111 : decode b_P_keep 111 = .ok (.getfield 24, 3) := by decide +kernel
theorem d_P_keep_114 : decode b_P_keep 114 = .ok (.iload 4, 2) := by decide +kernel
theorem d_P_keep_116 : decode b_P_keep 116 = .ok (.lload 5, 2) := by decide +kernel
theorem d_P_keep_118 : decode b_P_keep 118 = .ok (.bipush 16, 2) := by decide +kernel
theorem d_P_keep_120 : decode b_P_keep 120 = .ok (.lshl, 1) := by decide +kernel
theorem d_P_keep_121 : decode b_P_keep 121 = .ok (.aload_n 2, 1) := by decide +kernel
theorem d_P_keep_122 : decode b_P_keep 122 = .ok (.getfield 47, 3) := by decide +kernel
theorem d_P_keep_125 : decode b_P_keep 125 = .ok (.iload_n 3, 1) := by decide +kernel
theorem d_P_keep_126 : decode b_P_keep 126 = .ok (.invokestatic 40, 3) := by decide +kernel
theorem d_P_keep_129 : decode b_P_keep 129 = .ok (.i2l, 1) := by decide +kernel
theorem d_P_keep_130 : decode b_P_keep 130 = .ok (.lor, 1) := by decide +kernel
theorem d_P_keep_131 : decode b_P_keep 131 = .ok (.lastore, 1) := by decide +kernel
theorem d_P_keep_132 : decode b_P_keep 132 = .ok (.iinc 3 1, 3) := by decide +kernel
theorem d_P_keep_135 : decode b_P_keep 135 = .ok (.goto (-77), 3) := by decide +kernel
theorem d_P_keep_138 : decode b_P_keep 138 = .ok (.return_, 1) := by decide +kernel
theorem d_P_sameAs_0 : decode b_P_sameAs 0 = .ok (.iload_n 1, 1) := by decide +kernel
theorem d_P_sameAs_1 : decode b_P_sameAs 1 = .ok (.iconst 1, 1) := by decide +kernel
theorem d_P_sameAs_2 : decode b_P_sameAs 2 = .ok (.isub, 1) := by decide +kernel
theorem d_P_sameAs_3 : decode b_P_sameAs 3 = .ok (.istore_n 2, 1) := by decide +kernel
theorem d_P_sameAs_4 : decode b_P_sameAs 4 = .ok (.iload_n 2, 1) := by decide +kernel
theorem d_P_sameAs_5 : decode b_P_sameAs 5 = .ok (.ifCond .lt 96, 3) := by decide +kernel
theorem d_P_sameAs_8 : decode b_P_sameAs 8 = .ok (.aload_n 0, 1) := by decide +kernel
theorem d_P_sameAs_9 : decode b_P_sameAs 9 = .ok (.getfield 9, 3) := by decide +kernel
theorem d_P_sameAs_12 : decode b_P_sameAs 12 = .ok (.iload_n 2, 1) := by decide +kernel
theorem d_P_sameAs_13 : decode b_P_sameAs 13 = .ok (.invokestatic 40, 3) := by decide +kernel
theorem d_P_sameAs_16 : decode b_P_sameAs 16 = .ok (.aload_n 0, 1) := by decide +kernel
theorem d_P_sameAs_17 : decode b_P_sameAs 17 = .ok (.getfield 9, 3) := by decide +kernel
theorem d_P_sameAs_20 : decode b_P_sameAs 20 = .ok (.iload_n 1, 1) := by decide +kernel
theorem d_P_sameAs_21 : decode b_P_sameAs 21 = .ok (.invokestatic 40, 3) := by decide +kernel
theorem d_P_sameAs_24 : decode b_P_sameAs 24 = .ok (.if_icmp .ne 77, 3) := by decide +kernel
theorem d_P_sameAs_27 : decode b_P_sameAs 27 = .ok (.aload_n 0, 1) := by decide +kernel
theorem d_P_sameAs_28 : decode b_P_sameAs 28 = .ok (.getfield 15, 3) := by decide +kernel
theorem d_P_sameAs_31 : decode b_P_sameAs 31 = .ok (.iload_n 2, 1) := by decide +kernel
theorem d_P_sameAs_32 : decode b_P_sameAs 32 = .ok (.invokestatic 40, 3) := by decide +kernel
theorem d_P_sameAs_35 : decode b_P_sameAs 35 = .ok (.aload_n 0, 1) := by decide +kernel
theorem d_P_sameAs_36 : decode b_P_sameAs 36 = .ok (.getfield 15, 3) := by decide +kernel
theorem d_P_sameAs_39 : decode b_P_sameAs 39 = .ok (.iload_n 1, 1) := by decide +kernel
theorem d_P_sameAs_40 : decode b_P_sameAs 40 = .ok (.invokestatic 40, 3) := by decide +kernel
theorem d_P_sameAs_43 : decode b_P_sameAs 43 = .ok (.if_icmp .ne 52, 3) := by decide +kernel
theorem d_P_sameAs_46 : decode b_P_sameAs 46 = .ok (.aload_n 0, 1) := by decide +kernel
theorem d_P_sameAs_47 : decode b_P_sameAs 47 = .ok (.getfield 18, 3) := by decide +kernel
theorem d_P_sameAs_50 : decode b_P_sameAs 50 = .ok (.iload_n 2, 1) := by decide +kernel
theorem d_P_sameAs_51 : decode b_P_sameAs 51 = .ok (.invokestatic 40, 3) := by decide +kernel
theorem d_P_sameAs_54 : decode b_P_sameAs 54 = .ok (.aload_n 0, 1) := by decide +kernel
theorem d_P_sameAs_55 : decode b_P_sameAs 55 = .ok (.getfield 18, 3) := by decide +kernel
theorem d_P_sameAs_58 : decode b_P_sameAs 58 = .ok (.iload_n 1, 1) := by decide +kernel
theorem d_P_sameAs_59 : decode b_P_sameAs 59 = .ok (.invokestatic 40, 3) := by decide +kernel
theorem d_P_sameAs_62 : decode b_P_sameAs 62 = .ok (.if_icmp .ne 33, 3) := by decide +kernel
theorem d_P_sameAs_65 : decode b_P_sameAs 65 = .ok (.aload_n 0, 1) := by decide +kernel
theorem d_P_sameAs_66 : decode b_P_sameAs 66 = .ok (.getfield 21, 3) := by decide +kernel
theorem d_P_sameAs_69 : decode b_P_sameAs 69 = .ok (.iload_n 2, 1) := by decide +kernel
theorem d_P_sameAs_70 : decode b_P_sameAs 70 = .ok (.invokestatic 40, 3) := by decide +kernel
theorem d_P_sameAs_73 : decode b_P_sameAs 73 = .ok (.aload_n 0, 1) := by decide +kernel
theorem d_P_sameAs_74 : decode b_P_sameAs 74 = .ok (.getfield 21, 3) := by decide +kernel
theorem d_P_sameAs_77 : decode b_P_sameAs 77 = .ok (.iload_n 1, 1) := by decide +kernel
theorem d_P_sameAs_78 : decode b_P_sameAs 78 = .ok (.invokestatic 40, 3) := by decide +kernel
theorem d_P_sameAs_81 : decode b_P_sameAs 81 = .ok (.if_icmp .ne 14, 3) := by decide +kernel
theorem d_P_sameAs_84 : decode b_P_sameAs 84 = .ok (.aload_n 0, 1) := by decide +kernel
theorem d_P_sameAs_85 : decode b_P_sameAs 85 = .ok (.iload_n 2, 1) := by decide +kernel
theorem d_P_sameAs_86 : decode b_P_sameAs 86 = .ok (.iload_n 1, 1) := by decide +kernel
theorem d_P_sameAs_87 : decode b_P_sameAs 87 = .ok (.invokevirtual 50, 3) := by decide +kernel
theorem d_P_sameAs_90 : decode b_P_sameAs 90 = .ok (.ifCond .eq 5, 3) := by decide +kernel
theorem d_P_sameAs_93 : decode b_P_sameAs 93 = .ok (.iload_n 2, 1) := by decide +kernel
theorem d_P_sameAs_94 : decode b_P_sameAs 94 = .ok (.ireturn, 1) := by decide +kernel
theorem d_P_sameAs_95 : decode b_P_sameAs 95 = .ok (.iinc 2 (-1), 3) := by decide +kernel
theorem d_P_sameAs_98 : decode b_P_sameAs 98 = .ok (.goto (-94), 3) := by decide +kernel
theorem d_P_sameAs_101 : decode b_P_sameAs 101 = .ok (.bipush (-2), 2) := by decide +kernel
theorem d_P_sameAs_103 : decode b_P_sameAs 103 = .ok (.ireturn, 1) := by decide +kernel
theorem d_P_samePiles_0 : decode b_P_samePiles 0 = .ok (.aload_n 0, 1) := by decide +kernel
theorem d_P_samePiles_1 : decode b_P_samePiles 1 = .ok (.getfield 21, 3) := by decide +kernel
theorem d_P_samePiles_4 : decode b_P_samePiles 4 = .ok (.iload_n 1, 1) := by decide +kernel
theorem d_P_samePiles_5 : decode b_P_samePiles 5 = .ok (.invokestatic 40, 3) := by decide +kernel
theorem d_P_samePiles_8 : decode b_P_samePiles 8 = .ok (.iconst 3, 1) := by decide +kernel
theorem d_P_samePiles_9 : decode b_P_samePiles 9 = .ok (.iadd, 1) := by decide +kernel
theorem d_P_samePiles_10 : decode b_P_samePiles 10 = .ok (.iconst 4, 1) := by decide +kernel
theorem d_P_samePiles_11 : decode b_P_samePiles 11 = .ok (.idiv, 1) := by decide +kernel
theorem d_P_samePiles_12 : decode b_P_samePiles 12 = .ok (.istore_n 3, 1) := by decide +kernel
theorem d_P_samePiles_13 : decode b_P_samePiles 13 = .ok (.iload_n 1, 1) := by decide +kernel
theorem d_P_samePiles_14 : decode b_P_samePiles 14 = .ok (.bipush 16, 2) := by decide +kernel
theorem d_P_samePiles_16 : decode b_P_samePiles 16 = .ok (.imul, 1) := by decide +kernel
theorem d_P_samePiles_17 : decode b_P_samePiles 17 = .ok (.istore 4, 2) := by decide +kernel
theorem d_P_samePiles_19 : decode b_P_samePiles 19 = .ok (.iload_n 2, 1) := by decide +kernel
theorem d_P_samePiles_20 : decode b_P_samePiles 20 = .ok (.bipush 16, 2) := by decide +kernel
theorem d_P_samePiles_22 : decode b_P_samePiles 22 = .ok (.imul, 1) := by decide +kernel
theorem d_P_samePiles_23 : decode b_P_samePiles 23 = .ok (.istore 5, 2) := by decide +kernel
theorem d_P_samePiles_25 : decode b_P_samePiles 25 = .ok (.iload 4, 2) := by decide +kernel
theorem d_P_samePiles_27 : decode b_P_samePiles 27 = .ok (.ifCond .lt 32, 3) := by decide +kernel
theorem d_P_samePiles_30 : decode b_P_samePiles 30 = .ok (.iload 5, 2) := by decide +kernel
theorem d_P_samePiles_32 : decode b_P_samePiles 32 = .ok (.ifCond .lt 27, 3) := by decide +kernel
theorem d_P_samePiles_35 : decode b_P_samePiles 35 = .ok (.iload 4, 2) := by decide +kernel
theorem d_P_samePiles_37 : decode b_P_samePiles 37 = .ok (.iload_n 3, 1) := by decide +kernel
theorem d_P_samePiles_38 : decode b_P_samePiles 38 = .ok (.iadd, 1) := by decide +kernel
theorem d_P_samePiles_39 : decode b_P_samePiles 39 = .ok (.aload_n 0, 1) := by decide +kernel
theorem d_P_samePiles_40 : decode b_P_samePiles 40 = .ok (.getfield 24, 3) := by decide +kernel
theorem d_P_samePiles_43 : decode b_P_samePiles 43 = .ok (.arraylength, 1) := by decide +kernel
theorem d_P_samePiles_44 : decode b_P_samePiles 44 = .ok (.if_icmp .gt 15, 3) := by decide +kernel
theorem d_P_samePiles_47 : decode b_P_samePiles 47 = .ok (.iload 5, 2) := by decide +kernel
theorem d_P_samePiles_49 : decode b_P_samePiles 49 = .ok (.iload_n 3, 1) := by decide +kernel
theorem d_P_samePiles_50 : decode b_P_samePiles 50 = .ok (.iadd, 1) := by decide +kernel
theorem d_P_samePiles_51 : decode b_P_samePiles 51 = .ok (.aload_n 0, 1) := by decide +kernel
theorem d_P_samePiles_52 : decode b_P_samePiles 52 = .ok (.getfield 24, 3) := by decide +kernel
theorem d_P_samePiles_55 : decode b_P_samePiles 55 = .ok (.arraylength, 1) := by decide +kernel
theorem d_P_samePiles_56 : decode b_P_samePiles 56 = .ok (.if_icmp .le 5, 3) := by decide +kernel
theorem d_P_samePiles_59 : decode b_P_samePiles 59 = .ok (.iconst 0, 1) := by decide +kernel
theorem d_P_samePiles_60 : decode b_P_samePiles 60 = .ok (.ireturn, 1) := by decide +kernel
theorem d_P_samePiles_61 : decode b_P_samePiles 61 = .ok (.iconst 0, 1) := by decide +kernel
theorem d_P_samePiles_62 : decode b_P_samePiles 62 = .ok (.istore 6, 2) := by decide +kernel
theorem d_P_samePiles_64 : decode b_P_samePiles 64 = .ok (.iload 6, 2) := by decide +kernel
theorem d_P_samePiles_66 : decode b_P_samePiles 66 = .ok (.iload_n 3, 1) := by decide +kernel
theorem d_P_samePiles_67 : decode b_P_samePiles 67 = .ok (.if_icmp .ge 35, 3) := by decide +kernel
theorem d_P_samePiles_70 : decode b_P_samePiles 70 = .ok (.aload_n 0, 1) := by decide +kernel
theorem d_P_samePiles_71 : decode b_P_samePiles 71 = .ok (.getfield 24, 3) := by decide +kernel
theorem d_P_samePiles_74 : decode b_P_samePiles 74 = .ok (.iload 4, 2) := by decide +kernel
theorem d_P_samePiles_76 : decode b_P_samePiles 76 = .ok (.iload 6, 2) := by decide +kernel
theorem d_P_samePiles_78 : decode b_P_samePiles 78 = .ok (.iadd, 1) := by decide +kernel
theorem d_P_samePiles_79 : decode b_P_samePiles 79 = .ok (.laload, 1) := by decide +kernel
theorem d_P_samePiles_80 : decode b_P_samePiles 80 = .ok (.aload_n 0, 1) := by decide +kernel
theorem d_P_samePiles_81 : decode b_P_samePiles 81 = .ok (.getfield 24, 3) := by decide +kernel
theorem d_P_samePiles_84 : decode b_P_samePiles 84 = .ok (.iload 5, 2) := by decide +kernel
theorem d_P_samePiles_86 : decode b_P_samePiles 86 = .ok (.iload 6, 2) := by decide +kernel
theorem d_P_samePiles_88 : decode b_P_samePiles 88 = .ok (.iadd, 1) := by decide +kernel
theorem d_P_samePiles_89 : decode b_P_samePiles 89 = .ok (.laload, 1) := by decide +kernel
theorem d_P_samePiles_90 : decode b_P_samePiles 90 = .ok (.lcmp, 1) := by decide +kernel
theorem d_P_samePiles_91 : decode b_P_samePiles 91 = .ok (.ifCond .eq 5, 3) := by decide +kernel
theorem d_P_samePiles_94 : decode b_P_samePiles 94 = .ok (.iconst 0, 1) := by decide +kernel
theorem d_P_samePiles_95 : decode b_P_samePiles 95 = .ok (.ireturn, 1) := by decide +kernel
theorem d_P_samePiles_96 : decode b_P_samePiles 96 = .ok (.iinc 6 1, 3) := by decide +kernel
theorem d_P_samePiles_99 : decode b_P_samePiles 99 = .ok (.goto (-35), 3) := by decide +kernel
theorem d_P_samePiles_102 : decode b_P_samePiles 102 = .ok (.iconst 1, 1) := by decide +kernel
theorem d_P_samePiles_103 : decode b_P_samePiles 103 = .ok (.ireturn, 1) := by decide +kernel
theorem d_R_init_0 : decode b_R_init 0 = .ok (.aload_n 0, 1) := by decide +kernel
theorem d_R_init_1 : decode b_R_init 1 = .ok (.invokespecial 3, 3) := by decide +kernel
theorem d_R_init_4 : decode b_R_init 4 = .ok (.aload_n 0, 1) := by decide +kernel
theorem d_R_init_5 : decode b_R_init 5 = .ok (.new 9, 3) := by decide +kernel
theorem d_R_init_8 : decode b_R_init 8 = .ok (.dup, 1) := by decide +kernel
theorem d_R_init_9 : decode b_R_init 9 = .ok (.invokespecial 11, 3) := by decide +kernel
theorem d_R_init_12 : decode b_R_init 12 = .ok (.putfield 12, 3) := by decide +kernel
theorem d_R_init_15 : decode b_R_init 15 = .ok (.aload_n 0, 1) := by decide +kernel
theorem d_R_init_16 : decode b_R_init 16 = .ok (.aload_n 1, 1) := by decide +kernel
theorem d_R_init_17 : decode b_R_init 17 = .ok (.putfield 18, 3) := by decide +kernel
theorem d_R_init_20 : decode b_R_init 20 = .ok (.aload_n 0, 1) := by decide +kernel
theorem d_R_init_21 : decode b_R_init 21 = .ok (.new 22, 3) := by decide +kernel
theorem d_R_init_24 : decode b_R_init 24 = .ok (.dup, 1) := by decide +kernel
theorem d_R_init_25 : decode b_R_init 25 = .ok (.aload_n 1, 1) := by decide +kernel
theorem d_R_init_26 : decode b_R_init 26 = .ok (.invokespecial 24, 3) := by decide +kernel
theorem d_R_init_29 : decode b_R_init 29 = .ok (.putfield 27, 3) := by decide +kernel
theorem d_R_init_32 : decode b_R_init 32 = .ok (.aload_n 0, 1) := by decide +kernel
theorem d_R_init_33 : decode b_R_init 33 = .ok (.new 31, 3) := by decide +kernel
theorem d_R_init_36 : decode b_R_init 36 = .ok (.dup, 1) := by decide +kernel
theorem d_R_init_37 : decode b_R_init 37 = .ok (.aload_n 1, 1) := by decide +kernel
theorem d_R_init_38 : decode b_R_init 38 = .ok (.invokespecial 33, 3) := by decide +kernel
theorem d_R_init_41 : decode b_R_init 41 = .ok (.putfield 34, 3) := by decide +kernel
theorem d_R_init_44 : decode b_R_init 44 = .ok (.return_, 1) := by decide +kernel
theorem d_R_runPile_0 : decode b_R_runPile 0 = .ok (.aload_n 0, 1) := by decide +kernel
theorem d_R_runPile_1 : decode b_R_runPile 1 = .ok (.bipush (-2), 2) := by decide +kernel
theorem d_R_runPile_3 : decode b_R_runPile 3 = .ok (.putfield 38, 3) := by decide +kernel
theorem d_R_runPile_6 : decode b_R_runPile 6 = .ok (.aload_n 0, 1) := by decide +kernel
theorem d_R_runPile_7 : decode b_R_runPile 7 = .ok (.bipush (-2), 2) := by decide +kernel
theorem d_R_runPile_9 : decode b_R_runPile 9 = .ok (.putfield 42, 3) := by decide +kernel
theorem d_R_runPile_12 : decode b_R_runPile 12 = .ok (.aload_n 0, 1) := by decide +kernel
theorem d_R_runPile_13 : decode b_R_runPile 13 = .ok (.iconst 3, 1) := by decide +kernel
theorem d_R_runPile_14 : decode b_R_runPile 14 = .ok (.putfield 45, 3) := by decide +kernel
theorem d_R_runPile_17 : decode b_R_runPile 17 = .ok (.iconst 0, 1) := by decide +kernel
theorem d_R_runPile_18 : decode b_R_runPile 18 = .ok (.istore_n 3, 1) := by decide +kernel
theorem d_R_runPile_19 : decode b_R_runPile 19 = .ok (.iload_n 3, 1) := by decide +kernel
theorem d_R_runPile_20 : decode b_R_runPile 20 = .ok (.sipush 200, 3) := by decide +kernel
theorem d_R_runPile_23 : decode b_R_runPile 23 = .ok (.if_icmp .gt 29, 3) := by decide +kernel
theorem d_R_runPile_26 : decode b_R_runPile 26 = .ok (.aload_n 0, 1) := by decide +kernel
theorem d_R_runPile_27 : decode b_R_runPile 27 = .ok (.iload_n 3, 1) := by decide +kernel
theorem d_R_runPile_28 : decode b_R_runPile 28 = .ok (.putfield 48, 3) := by decide +kernel
theorem d_R_runPile_31 : decode b_R_runPile 31 = .ok (.aload_n 0, 1) := by decide +kernel
theorem d_R_runPile_32 : decode b_R_runPile 32 = .ok (.aload_n 1, 1) := by decide +kernel
theorem d_R_runPile_33 : decode b_R_runPile 33 = .ok (.invokevirtual 51, 3) := by decide +kernel
theorem d_R_runPile_36 : decode b_R_runPile 36 = .ok (.ifCond .eq 4, 3) := by decide +kernel
theorem d_R_runPile_39 : decode b_R_runPile 39 = .ok (.return_, 1) := by decide +kernel
theorem d_R_runPile_40 : decode b_R_runPile 40 = .ok (.aload_n 0, 1) := by decide +kernel
theorem d_R_runPile_41 : decode b_R_runPile 41 = .ok (.aload_n 1, 1) := by decide +kernel
theorem d_R_runPile_42 : decode b_R_runPile 42 = .ok (.aload_n 2, 1) := by decide +kernel
theorem d_R_runPile_43 : decode b_R_runPile 43 = .ok (.invokevirtual 55, 3) := by decide +kernel
theorem d_R_runPile_46 : decode b_R_runPile 46 = .ok (.iinc 3 1, 3) := by decide +kernel
theorem d_R_runPile_49 : decode b_R_runPile 49 = .ok (.goto (-30), 3) := by decide +kernel
theorem d_R_runPile_52 : decode b_R_runPile 52 = .ok (.return_, 1) := by decide +kernel
theorem d_R_hasEnded_0 : decode b_R_hasEnded 0 = .ok (.aload_n 1, 1) := by decide +kernel
theorem d_R_hasEnded_1 : decode b_R_hasEnded 1 = .ok (.invokevirtual 59, 3) := by decide +kernel
theorem d_R_hasEnded_4 : decode b_R_hasEnded 4 = .ok (.ifCond .eq 10, 3) := by decide +kernel
theorem d_R_hasEnded_7 : decode b_R_hasEnded 7 = .ok (.aload_n 0, 1) := by decide +kernel
theorem d_R_hasEnded_8 : decode b_R_hasEnded 8 = .ok (.iconst 1, 1) := by decide +kernel
theorem d_R_hasEnded_9 : decode b_R_hasEnded 9 = .ok (.putfield 45, 3) := by decide +kernel
theorem d_R_hasEnded_12 : decode b_R_hasEnded 12 = .ok (.iconst 1, 1) := by decide +kernel
theorem d_R_hasEnded_13 : decode b_R_hasEnded 13 = .ok (.ireturn, 1) := by decide +kernel
theorem d_R_hasEnded_14 : decode b_R_hasEnded 14 = .ok (.aload_n 1, 1) := by decide +kernel
theorem d_R_hasEnded_15 : decode b_R_hasEnded 15 = .ok (.getfield 65, 3) := by decide +kernel
theorem d_R_hasEnded_18 : decode b_R_hasEnded 18 = .ok (.ifCond .ne 10, 3) := by decide +kernel
theorem d_R_hasEnded_21 : decode b_R_hasEnded 21 = .ok (.aload_n 0, 1) := by decide +kernel
theorem d_R_hasEnded_22 : decode b_R_hasEnded 22 = .ok (.iconst 0, 1) := by decide +kernel
theorem d_R_hasEnded_23 : decode b_R_hasEnded 23 = .ok (.putfield 45, 3) := by decide +kernel
theorem d_R_hasEnded_26 : decode b_R_hasEnded 26 = .ok (.iconst 1, 1) := by decide +kernel
theorem d_R_hasEnded_27 : decode b_R_hasEnded 27 = .ok (.ireturn, 1) := by decide +kernel
theorem d_R_hasEnded_28 : decode b_R_hasEnded 28 = .ok (.aload_n 0, 1) := by decide +kernel
theorem d_R_hasEnded_29 : decode b_R_hasEnded 29 = .ok (.getfield 12, 3) := by decide +kernel
theorem d_R_hasEnded_32 : decode b_R_hasEnded 32 = .ok (.aload_n 0, 1) := by decide +kernel
theorem d_R_hasEnded_33 : decode b_R_hasEnded 33 = .ok (.getfield 48, 3) := by decide +kernel
theorem d_R_hasEnded_36 : decode b_R_hasEnded 36 = .ok (.aload_n 1, 1) := by decide +kernel
theorem d_R_hasEnded_37 : decode b_R_hasEnded 37 = .ok (.invokevirtual 68, 3) := by decide +kernel
theorem d_R_hasEnded_40 : decode b_R_hasEnded 40 = .ok (.aload_n 0, 1) := by decide +kernel
theorem d_R_hasEnded_41 : decode b_R_hasEnded 41 = .ok (.aload_n 0, 1) := by decide +kernel
theorem d_R_hasEnded_42 : decode b_R_hasEnded 42 = .ok (.getfield 12, 3) := by decide +kernel
theorem d_R_hasEnded_45 : decode b_R_hasEnded 45 = .ok (.aload_n 0, 1) := by decide +kernel
theorem d_R_hasEnded_46 : decode b_R_hasEnded 46 = .ok (.getfield 48, 3) := by decide +kernel
theorem d_R_hasEnded_49 : decode b_R_hasEnded 49 = .ok (.invokevirtual 72, 3) := by decide +kernel
theorem d_R_hasEnded_52 : decode b_R_hasEnded 52 = .ok (.putfield 38, 3) := by decide +kernel
theorem d_R_hasEnded_55 : decode b_R_hasEnded 55 = .ok (.aload_n 0, 1) := by decide +kernel
theorem d_R_hasEnded_56 : decode b_R_hasEnded 56 = .ok (.getfield 38, 3) := by decide +kernel
theorem d_R_hasEnded_59 : decode b_R_hasEnded 59 = .ok (.ifCond .lt 23, 3) := by decide +kernel
theorem d_R_hasEnded_62 : decode b_R_hasEnded 62 = .ok (.aload_n 0, 1) := by decide +kernel
theorem d_R_hasEnded_63 : decode b_R_hasEnded 63 = .ok (.iconst 2, 1) := by decide +kernel
theorem d_R_hasEnded_64 : decode b_R_hasEnded 64 = .ok (.putfield 45, 3) := by decide +kernel
theorem d_R_hasEnded_67 : decode b_R_hasEnded 67 = .ok (.aload_n 0, 1) := by decide +kernel
theorem d_R_hasEnded_68 : decode b_R_hasEnded 68 = .ok (.aload_n 0, 1) := by decide +kernel
theorem d_R_hasEnded_69 : decode b_R_hasEnded 69 = .ok (.getfield 48, 3) := by decide +kernel
theorem d_R_hasEnded_72 : decode b_R_hasEnded 72 = .ok (.aload_n 0, 1) := by decide +kernel
theorem d_R_hasEnded_73 : decode b_R_hasEnded 73 = .ok (.getfield 38, 3) := by decide +kernel
theorem d_R_hasEnded_76 : decode b_R_hasEnded 76 = .ok (.isub, 1) := by decide +kernel
theorem d_R_hasEnded_77 : decode b_R_hasEnded 77 = .ok (.putfield 42, 3) := by decide +kernel
theorem d_R_hasEnded_80 : decode b_R_hasEnded 80 = .ok (.iconst 1, 1) := by decide +kernel
theorem d_R_hasEnded_81 : decode b_R_hasEnded 81 = .ok (.ireturn, 1) := by decide +kernel
theorem d_R_hasEnded_82 : decode b_R_hasEnded 82 = .ok (.aload_n 0, 1) := by decide +kernel
theorem d_R_hasEnded_83 : decode b_R_hasEnded 83 = .ok (.getfield 48, 3) := by decide +kernel
theorem d_R_hasEnded_86 : decode b_R_hasEnded 86 = .ok (.sipush 200, 3) := by decide +kernel
theorem d_R_hasEnded_89 : decode b_R_hasEnded 89 = .ok (.if_icmp .lt 7, 3) := by decide +kernel
theorem d_R_hasEnded_92 : decode b_R_hasEnded 92 = .ok (.iconst 1, 1) := by decide +kernel
theorem d_R_hasEnded_93 : decode b_R_hasEnded 93 = .ok (.goto 4, 3) := by decide +kernel
theorem d_R_hasEnded_96 : decode b_R_hasEnded 96 = .ok (.iconst 0, 1) := by decide +kernel
theorem d_R_hasEnded_97 : decode b_R_hasEnded 97 = .ok (.ireturn, 1) := by decide +kernel
theorem d_R_resolveTop_0 : decode b_R_resolveTop 0 = .ok (.aload_n 1, 1) := by decide +kernel
theorem d_R_resolveTop_1 : decode b_R_resolveTop 1 = .ok (.invokevirtual 76, 3) := by decide +kernel
theorem d_R_resolveTop_4 : decode b_R_resolveTop 4 = .ok (.istore_n 3, 1) := by decide +kernel
theorem d_R_resolveTop_5 : decode b_R_resolveTop 5 = .ok (.iload_n 3, 1) := by decide +kernel
theorem d_R_resolveTop_6 : decode b_R_resolveTop 6 = .ok (.ifCond .ge 4, 3) := by decide +kernel
theorem d_R_resolveTop_9 : decode b_R_resolveTop 9 = .ok (.return_, 1) := by decide +kernel
theorem d_R_resolveTop_10 : decode b_R_resolveTop 10 = .ok (.aload_n 2, 1) := by decide +kernel
theorem d_R_resolveTop_11 : decode b_R_resolveTop 11 = .ok (.iload_n 3, 1) := by decide +kernel
theorem d_R_resolveTop_12 : decode b_R_resolveTop 12 = .ok (.invokevirtual 79, 3) := by decide +kernel
theorem d_R_resolveTop_15 : decode b_R_resolveTop 15 = .ok (.iload_n 3, 1) := by decide +kernel
theorem d_R_resolveTop_16 : decode b_R_resolveTop 16 = .ok (.sipush 10000, 3) := by decide +kernel
theorem d_R_resolveTop_19 : decode b_R_resolveTop 19 = .ok (.if_icmp .lt 22, 3) := by decide +kernel
theorem d_R_resolveTop_22 : decode b_R_resolveTop 22 = .ok (.aload_n 0, 1) := by decide +kernel
theorem d_R_resolveTop_23 : decode b_R_resolveTop 23 = .ok (.getfield 34, 3) := by decide +kernel
theorem d_R_resolveTop_26 : decode b_R_resolveTop 26 = .ok (.iload_n 3, 1) := by decide +kernel
theorem d_R_resolveTop_27 : decode b_R_resolveTop 27 = .ok (.sipush 10000, 3) := by decide +kernel
theorem d_R_resolveTop_30 : decode b_R_resolveTop 30 = .ok (.isub, 1) := by decide +kernel
theorem d_R_resolveTop_31 : decode b_R_resolveTop 31 = .ok (.invokevirtual 85, 3) := by decide +kernel
theorem d_R_resolveTop_34 : decode b_R_resolveTop 34 = .ok (.aload_n 0, 1) := by decide +kernel
theorem d_R_resolveTop_35 : decode b_R_resolveTop 35 = .ok (.aload_n 1, 1) := by decide +kernel
theorem d_R_resolveTop_36 : decode b_R_resolveTop 36 = .ok (.aload_n 2, 1) := by decide +kernel
theorem d_R_resolveTop_37 : decode b_R_resolveTop 37 = .ok (.invokevirtual 88, 3) := by decide +kernel
theorem d_R_resolveTop_40 : decode b_R_resolveTop 40 = .ok (.return_, 1) := by decide +kernel
theorem d_R_resolveTop_41 : decode b_R_resolveTop 41 = .ok (.aload_n 0, 1) := by decide +kernel
theorem d_R_resolveTop_42 : decode b_R_resolveTop 42 = .ok (.getfield 18, 3) := by decide +kernel
theorem d_R_resolveTop_45 : decode b_R_resolveTop 45 = .ok (.getfield 91, 3) := by decide +kernel
theorem d_R_resolveTop_48 : decode b_R_resolveTop 48 = .ok (.iload_n 3, 1) := by decide +kernel
theorem d_R_resolveTop_49 : decode b_R_resolveTop 49 = .ok (.invokestatic 97, 3) := by decide +kernel
theorem d_R_resolveTop_52 : decode b_R_resolveTop 52 = .ok (.istore 4, 2) := by decide +kernel
theorem d_R_resolveTop_54 : decode b_R_resolveTop 54 = .ok (.iload 4, 2) := by decide +kernel
theorem d_R_resolveTop_56 : decode b_R_resolveTop 56 = .ok (.invokestatic 101, 3) := by decide +kernel
theorem d_R_resolveTop_59 : decode b_R_resolveTop 59 = .ok (.iconst 3, 1) := by decide +kernel
theorem d_R_resolveTop_60 : decode b_R_resolveTop 60 = .ok (.if_icmp .eq 9, 3) := by decide +kernel
theorem d_R_resolveTop_63 : decode b_R_resolveTop 63 = .ok (.aload_n 1, 1) := by decide +kernel
theorem d_R_resolveTop_64 : decode b_R_resolveTop 64 = .ok (.iload_n 3, 1) := by decide +kernel
theorem d_R_resolveTop_65 : decode b_R_resolveTop 65 = .ok (.invokevirtual 104, 3) := by decide +kernel
theorem d_R_resolveTop_68 : decode b_R_resolveTop 68 = .ok (.return_, 1) := by decide +kernel
theorem d_R_resolveTop_69 : decode b_R_resolveTop 69 = .ok (.aload_n 1, 1) := by decide +kernel
theorem d_R_resolveTop_70 : decode b_R_resolveTop 70 = .ok (.iload_n 3, 1) := by decide +kernel
theorem d_R_resolveTop_71 : decode b_R_resolveTop 71 = .ok (.iconst 4, 1) := by decide +kernel
theorem d_R_resolveTop_72 : decode b_R_resolveTop 72 = .ok (.invokevirtual 107, 3) := by decide +kernel
theorem d_R_resolveTop_75 : decode b_R_resolveTop 75 = .ok (.iload 4, 2) := by decide +kernel
theorem d_R_resolveTop_77 : decode b_R_resolveTop 77 = .ok (.bipush 12, 2) := by decide +kernel
theorem d_R_resolveTop_79 : decode b_R_resolveTop 79 = .ok (.if_icmp .ne 11, 3) := by decide +kernel
theorem d_R_resolveTop_82 : decode b_R_resolveTop 82 = .ok (.aload_n 0, 1) := by decide +kernel
theorem d_R_resolveTop_83 : decode b_R_resolveTop 83 = .ok (.aload_n 1, 1) := by decide +kernel
theorem d_R_resolveTop_84 : decode b_R_resolveTop 84 = .ok (.invokevirtual 111, 3) := by decide +kernel
theorem d_R_resolveTop_87 : decode b_R_resolveTop 87 = .ok (.goto 73, 3) := by decide +kernel
theorem d_R_resolveTop_90 : decode b_R_resolveTop 90 = .ok (.iload 4, 2) := by decide +kernel
theorem d_R_resolveTop_92 : decode b_R_resolveTop 92 = .ok (.bipush 13, 2) := by decide +kernel
theorem d_R_resolveTop_94 : decode b_R_resolveTop 94 = .ok (.if_icmp .ne 24, 3) := by decide +kernel
theorem d_R_resolveTop_97 : decode b_R_resolveTop 97 = .ok (.aload_n 0, 1) := by decide +kernel
theorem d_R_resolveTop_98 : decode b_R_resolveTop 98 = .ok (.aload_n 1, 1) := by decide +kernel
theorem d_R_resolveTop_99 : decode b_R_resolveTop 99 = .ok (.iconst 1, 1) := by decide +kernel
theorem d_R_resolveTop_100 : decode b_R_resolveTop 100 = .ok (.aload_n 0, 1) := by decide +kernel
theorem d_R_resolveTop_101 : decode b_R_resolveTop 101 = .ok (.getfield 18, 3) := by decide +kernel
theorem d_R_resolveTop_104 : decode b_R_resolveTop 104 = .ok (.getfield 115, 3) := by decide +kernel
theorem d_R_resolveTop_107 : decode b_R_resolveTop 107 = .ok (.iload_n 3, 1) := by decide +kernel
theorem d_R_resolveTop_108 : decode b_R_resolveTop 108 = .ok (.invokestatic 97, 3) := by decide +kernel
theorem d_R_resolveTop_111 : decode b_R_resolveTop 111 = .ok (.isub, 1) := by decide +kernel
theorem d_R_resolveTop_112 : decode b_R_resolveTop 112 = .ok (.invokevirtual 118, 3) := by decide +kernel
theorem d_R_resolveTop_115 : decode b_R_resolveTop 115 = .ok (.goto 45, 3) := by decide +kernel
theorem d_R_resolveTop_118 : decode b_R_resolveTop 118 = .ok (.aload_n 0, 1) := by decide +kernel
theorem d_R_resolveTop_119 : decode b_R_resolveTop 119 = .ok (.getfield 27, 3) := by decide +kernel
theorem d_R_resolveTop_122 : decode b_R_resolveTop 122 = .ok (.aload_n 1, 1) := by decide +kernel
theorem d_R_resolveTop_123 : decode b_R_resolveTop 123 = .ok (.invokevirtual 122, 3) := by decide +kernel
theorem d_R_resolveTop_126 : decode b_R_resolveTop 126 = .ok (.aload_n 0, 1) := by decide +kernel
theorem d_R_resolveTop_127 : decode b_R_resolveTop 127 = .ok (.iload 4, 2) := by decide +kernel
theorem d_R_resolveTop_129 : decode b_R_resolveTop 129 = .ok (.aload_n 0, 1) := by decide +kernel
theorem d_R_resolveTop_130 : decode b_R_resolveTop 130 = .ok (.getfield 18, 3) := by decide +kernel
theorem d_R_resolveTop_133 : decode b_R_resolveTop 133 = .ok (.getfield 115, 3) := by decide +kernel
theorem d_R_resolveTop_136 : decode b_R_resolveTop 136 = .ok (.iload_n 3, 1) := by decide +kernel
theorem d_R_resolveTop_137 : decode b_R_resolveTop 137 = .ok (.invokestatic 97, 3) := by decide +kernel
theorem d_R_resolveTop_140 : decode b_R_resolveTop 140 = .ok (.aload_n 0, 1) := by decide +kernel
theorem d_R_resolveTop_141 : decode b_R_resolveTop 141 = .ok (.getfield 18, 3) := by decide +kernel
theorem d_R_resolveTop_144 : decode b_R_resolveTop 144 = .ok (.getfield 125, 3) := by decide +kernel
theorem d_R_resolveTop_147 : decode b_R_resolveTop 147 = .ok (.iload_n 3, 1) := by decide +kernel
theorem d_R_resolveTop_148 : decode b_R_resolveTop 148 = .ok (.invokestatic 97, 3) := by decide +kernel
theorem d_R_resolveTop_151 : decode b_R_resolveTop 151 = .ok (.invokevirtual 128, 3) := by decide +kernel
theorem d_R_resolveTop_154 : decode b_R_resolveTop 154 = .ok (.aload_n 0, 1) := by decide +kernel
theorem d_R_resolveTop_155 : decode b_R_resolveTop 155 = .ok (.aload_n 1, 1) := by decide +kernel
theorem d_R_resolveTop_156 : decode b_R_resolveTop 156 = .ok (.aload_n 2, 1) := by decide +kernel
theorem d_R_resolveTop_157 : decode b_R_resolveTop 157 = .ok (.invokevirtual 88, 3) := by decide +kernel
theorem d_R_resolveTop_160 : decode b_R_resolveTop 160 = .ok (.return_, 1) := by decide +kernel
theorem d_R_stopTop_0 : decode b_R_stopTop 0 = .ok (.aload_n 1, 1) := by decide +kernel
theorem d_R_stopTop_1 : decode b_R_stopTop 1 = .ok (.invokevirtual 76, 3) := by decide +kernel
theorem d_R_stopTop_4 : decode b_R_stopTop 4 = .ok (.istore_n 2, 1) := by decide +kernel
theorem d_R_stopTop_5 : decode b_R_stopTop 5 = .ok (.iload_n 2, 1) := by decide +kernel
theorem d_R_stopTop_6 : decode b_R_stopTop 6 = .ok (.ifCond .lt 16, 3) := by decide +kernel
theorem d_R_stopTop_9 : decode b_R_stopTop 9 = .ok (.iload_n 2, 1) := by decide +kernel
theorem d_R_stopTop_10 : decode b_R_stopTop 10 = .ok (.sipush 10000, 3) := by decide +kernel
theorem d_R_stopTop_13 : decode b_R_stopTop 13 = .ok (.if_icmp .ge 9, 3) := by decide +kernel
theorem d_R_stopTop_16 : decode b_R_stopTop 16 = .ok (.aload_n 1, 1) := by decide +kernel
theorem d_R_stopTop_17 : decode b_R_stopTop 17 = .ok (.iload_n 2, 1) := by decide +kernel
theorem d_R_stopTop_18 : decode b_R_stopTop 18 = .ok (.iconst 4, 1) := by decide +kernel
theorem d_R_stopTop_19 : decode b_R_stopTop 19 = .ok (.invokevirtual 107, 3) := by decide +kernel
theorem d_R_stopTop_22 : decode b_R_stopTop 22 = .ok (.return_, 1) := by decide +kernel
theorem d_R_clearYoungest_0 : decode b_R_clearYoungest 0 = .ok (.aload_n 1, 1) := by decide +kernel
theorem d_R_clearYoungest_1 : decode b_R_clearYoungest 1 = .ok (.getfield 132, 3) := by decide +kernel
theorem d_R_clearYoungest_4 : decode b_R_clearYoungest 4 = .ok (.iconst 1, 1) := by decide +kernel
theorem d_R_clearYoungest_5 : decode b_R_clearYoungest 5 = .ok (.isub, 1) := by decide +kernel
theorem d_R_clearYoungest_6 : decode b_R_clearYoungest 6 = .ok (.istore_n 3, 1) := by decide +kernel
theorem d_R_clearYoungest_7 : decode b_R_clearYoungest 7 = .ok (.iload_n 3, 1) := by decide +kernel
theorem d_R_clearYoungest_8 : decode b_R_clearYoungest 8 = .ok (.ifCond .lt 42, 3) := by decide +kernel
theorem d_R_clearYoungest_11 : decode b_R_clearYoungest 11 = .ok (.aload_n 1, 1) := by decide +kernel
theorem d_R_clearYoungest_12 : decode b_R_clearYoungest 12 = .ok (.getfield 135, 3) := by decide +kernel
theorem d_R_clearYoungest_15 : decode b_R_clearYoungest 15 = .ok (.iload_n 3, 1) := by decide +kernel
theorem d_R_clearYoungest_16 : decode b_R_clearYoungest 16 = .ok (.invokestatic 97, 3) := by decide +kernel
theorem d_R_clearYoungest_19 : decode b_R_clearYoungest 19 = .ok (.istore 4, 2) := by decide +kernel
theorem d_R_clearYoungest_21 : decode b_R_clearYoungest 21 = .ok (.aload_n 0, 1) := by decide +kernel
theorem d_R_clearYoungest_22 : decode b_R_clearYoungest 22 = .ok (.getfield 18, 3) := by decide +kernel
theorem d_R_clearYoungest_25 : decode b_R_clearYoungest 25 = .ok (.getfield 115, 3) := by decide +kernel
theorem d_R_clearYoungest_28 : decode b_R_clearYoungest 28 = .ok (.iload 4, 2) := by decide +kernel
theorem d_R_clearYoungest_30 : decode b_R_clearYoungest 30 = .ok (.invokestatic 97, 3) := by decide +kernel
theorem d_R_clearYoungest_33 : decode b_R_clearYoungest 33 = .ok (.iload_n 2, 1) := by decide +kernel
theorem d_R_clearYoungest_34 : decode b_R_clearYoungest 34 = .ok (.if_icmp .ne 10, 3) := by decide +kernel
theorem d_R_clearYoungest_37 : decode b_R_clearYoungest 37 = .ok (.aload_n 1, 1) := by decide +kernel
theorem d_R_clearYoungest_38 : decode b_R_clearYoungest 38 = .ok (.iload 4, 2) := by decide +kernel
theorem d_R_clearYoungest_40 : decode b_R_clearYoungest 40 = .ok (.invokevirtual 138, 3) := by decide +kernel
theorem d_R_clearYoungest_43 : decode b_R_clearYoungest 43 = .ok (.return_, 1) := by decide +kernel
theorem d_R_clearYoungest_44 : decode b_R_clearYoungest 44 = .ok (.iinc 3 (-1), 3) := by decide +kernel
theorem d_R_clearYoungest_47 : decode b_R_clearYoungest 47 = .ok (.goto (-40), 3) := by decide +kernel
theorem d_R_clearYoungest_50 : decode b_R_clearYoungest 50 = .ok (.return_, 1) := by decide +kernel
theorem d_R_begin_0 : decode b_R_begin 0 = .ok (.iload_n 1, 1) := by decide +kernel
theorem d_R_begin_1 : decode b_R_begin 1 = .ok (.bipush 9, 2) := by decide +kernel
theorem d_R_begin_3 : decode b_R_begin 3 = .ok (.if_icmp .ne 30, 3) := by decide +kernel
theorem d_R_begin_6 : decode b_R_begin 6 = .ok (.aload_n 0, 1) := by decide +kernel
theorem d_R_begin_7 : decode b_R_begin 7 = .ok (.getfield 34, 3) := by decide +kernel
theorem d_R_begin_10 : decode b_R_begin 10 = .ok (.iconst 1, 1) := by decide +kernel
theorem d_R_begin_11 : decode b_R_begin 11 = .ok (.iconst 1, 1) := by decide +kernel
theorem d_R_begin_12 : decode b_R_begin 12 = .ok (.iload_n 2, 1) := by decide +kernel
theorem d_R_begin_13 : decode b_R_begin 13 = .ok (.isub, 1) := by decide +kernel
theorem d_R_begin_14 : decode b_R_begin 14 = .ok (.aload_n 0, 1) := by decide +kernel
theorem d_R_begin_15 : decode b_R_begin 15 = .ok (.getfield 27, 3) := by decide +kernel
theorem d_R_begin_18 : decode b_R_begin 18 = .ok (.getfield 141, 3) := by decide +kernel
theorem d_R_begin_21 : decode b_R_begin 21 = .ok (.iconst 1, 1) := by decide +kernel
theorem d_R_begin_22 : decode b_R_begin 22 = .ok (.invokestatic 97, 3) := by decide +kernel
theorem d_R_begin_25 : decode b_R_begin 25 = .ok (.iload_n 3, 1) := by decide +kernel
theorem d_R_begin_26 : decode b_R_begin 26 = .ok (.iadd, 1) := by decide +kernel
theorem d_R_begin_27 : decode b_R_begin 27 = .ok (.invokevirtual 144, 3) := by decide +kernel
theorem d_R_begin_30 : decode b_R_begin 30 = .ok (.goto 62, 3) := by decide +kernel
theorem d_R_begin_33 : decode b_R_begin 33 = .ok (.iload_n 1, 1) := by decide +kernel
theorem d_R_begin_34 : decode b_R_begin 34 = .ok (.bipush 10, 2) := by decide +kernel
theorem d_R_begin_36 : decode b_R_begin 36 = .ok (.if_icmp .ne 28, 3) := by decide +kernel
theorem d_R_begin_39 : decode b_R_begin 39 = .ok (.aload_n 0, 1) := by decide +kernel
theorem d_R_begin_40 : decode b_R_begin 40 = .ok (.getfield 34, 3) := by decide +kernel
theorem d_R_begin_43 : decode b_R_begin 43 = .ok (.iconst 2, 1) := by decide +kernel
theorem d_R_begin_44 : decode b_R_begin 44 = .ok (.iload_n 2, 1) := by decide +kernel
theorem d_R_begin_45 : decode b_R_begin 45 = .ok (.aload_n 0, 1) := by decide +kernel
theorem d_R_begin_46 : decode b_R_begin 46 = .ok (.getfield 27, 3) := by decide +kernel
theorem d_R_begin_49 : decode b_R_begin 49 = .ok (.getfield 141, 3) := by decide +kernel
theorem d_R_begin_52 : decode b_R_begin 52 = .ok (.iconst 2, 1) := by decide +kernel
theorem d_R_begin_53 : decode b_R_begin 53 = .ok (.invokestatic 97, 3) := by decide +kernel
theorem d_R_begin_56 : decode b_R_begin 56 = .ok (.iload_n 3, 1) := by decide +kernel
theorem d_R_begin_57 : decode b_R_begin 57 = .ok (.iadd, 1) := by decide +kernel
theorem d_R_begin_58 : decode b_R_begin 58 = .ok (.invokevirtual 144, 3) := by decide +kernel
theorem d_R_begin_61 : decode b_R_begin 61 = .ok (.goto 31, 3) := by decide +kernel
theorem d_R_begin_64 : decode b_R_begin 64 = .ok (.iload_n 1, 1) := by decide +kernel
theorem d_R_begin_65 : decode b_R_begin 65 = .ok (.bipush 11, 2) := by decide +kernel
theorem d_R_begin_67 : decode b_R_begin 67 = .ok (.if_icmp .ne 25, 3) := by decide +kernel
theorem d_R_begin_70 : decode b_R_begin 70 = .ok (.aload_n 0, 1) := by decide +kernel
theorem d_R_begin_71 : decode b_R_begin 71 = .ok (.getfield 34, 3) := by decide +kernel
theorem d_R_begin_74 : decode b_R_begin 74 = .ok (.iconst 0, 1) := by decide +kernel
theorem d_R_begin_75 : decode b_R_begin 75 = .ok (.iload_n 2, 1) := by decide +kernel
theorem d_R_begin_76 : decode b_R_begin 76 = .ok (.aload_n 0, 1) := by decide +kernel
theorem d_R_begin_77 : decode b_R_begin 77 = .ok (.getfield 27, 3) := by decide +kernel
theorem d_R_begin_80 : decode b_R_begin 80 = .ok (.getfield 141, 3) := by decide +kernel
theorem d_R_begin_83 : decode b_R_begin 83 = .ok (.iconst 0, 1) := by decide +kernel
theorem d_R_begin_84 : decode b_R_begin 84 = .ok (.invokestatic 97, 3) := by decide +kernel
theorem d_R_begin_87 : decode b_R_begin 87 = .ok (.iload_n 3, 1) := by decide +kernel
theorem d_R_begin_88 : decode b_R_begin 88 = .ok (.iadd, 1) := by decide +kernel
theorem d_R_begin_89 : decode b_R_begin 89 = .ok (.invokevirtual 144, 3) := by decide +kernel
theorem d_R_begin_92 : decode b_R_begin 92 = .ok (.return_, 1) := by decide +kernel
theorem d_R_happen_0 : decode b_R_happen 0 = .ok (.aload_n 0, 1) := by decide +kernel
theorem d_R_happen_1 : decode b_R_happen 1 = .ok (.getfield 34, 3) := by decide +kernel
theorem d_R_happen_4 : decode b_R_happen 4 = .ok (.aload_n 1, 1) := by decide +kernel
theorem d_R_happen_5 : decode b_R_happen 5 = .ok (.invokevirtual 147, 3) := by decide +kernel
theorem d_R_happen_8 : decode b_R_happen 8 = .ok (.aload_n 2, 1) := by decide +kernel
theorem d_R_happen_9 : decode b_R_happen 9 = .ok (.aload_n 0, 1) := by decide +kernel
theorem d_R_happen_10 : decode b_R_happen 10 = .ok (.getfield 34, 3) := by decide +kernel
theorem d_R_happen_13 : decode b_R_happen 13 = .ok (.invokevirtual 150, 3) := by decide +kernel
theorem d_R_happen_16 : decode b_R_happen 16 = .ok (.invokevirtual 153, 3) := by decide +kernel
theorem d_R_happen_19 : decode b_R_happen 19 = .ok (.aload_n 0, 1) := by decide +kernel
theorem d_R_happen_20 : decode b_R_happen 20 = .ok (.getfield 34, 3) := by decide +kernel
theorem d_R_happen_23 : decode b_R_happen 23 = .ok (.getfield 156, 3) := by decide +kernel
theorem d_R_happen_26 : decode b_R_happen 26 = .ok (.iconst 1, 1) := by decide +kernel
theorem d_R_happen_27 : decode b_R_happen 27 = .ok (.if_icmp .ne 25, 3) := by decide +kernel
theorem d_R_happen_30 : decode b_R_happen 30 = .ok (.aload_n 1, 1) := by decide +kernel
theorem d_R_happen_31 : decode b_R_happen 31 = .ok (.aload_n 0, 1) := by decide +kernel
theorem d_R_happen_32 : decode b_R_happen 32 = .ok (.getfield 34, 3) := by decide +kernel
theorem d_R_happen_35 : decode b_R_happen 35 = .ok (.getfield 159, 3) := by decide +kernel
theorem d_R_happen_38 : decode b_R_happen 38 = .ok (.aload_n 0, 1) := by decide +kernel
theorem d_R_happen_39 : decode b_R_happen 39 = .ok (.getfield 34, 3) := by decide +kernel
theorem d_R_happen_42 : decode b_R_happen 42 = .ok (.getfield 162, 3) := by decide +kernel
theorem d_R_happen_45 : decode b_R_happen 45 = .ok (.ineg, 1) := by decide +kernel
theorem d_R_happen_46 : decode b_R_happen 46 = .ok (.invokevirtual 165, 3) := by decide +kernel
theorem d_R_happen_49 : decode b_R_happen 49 = .ok (.goto 65, 3) := by decide +kernel
theorem d_R_happen_52 : decode b_R_happen 52 = .ok (.aload_n 0, 1) := by decide +kernel
theorem d_R_happen_53 : decode b_R_happen 53 = .ok (.getfield 34, 3) := by decide +kernel
theorem d_R_happen_56 : decode b_R_happen 56 = .ok (.getfield 156, 3) := by decide +kernel
theorem d_R_happen_59 : decode b_R_happen 59 = .ok (.iconst 2, 1) := by decide +kernel
theorem d_R_happen_60 : decode b_R_happen 60 = .ok (.if_icmp .ne 24, 3) := by decide +kernel
theorem d_R_happen_63 : decode b_R_happen 63 = .ok (.aload_n 1, 1) := by decide +kernel
theorem d_R_happen_64 : decode b_R_happen 64 = .ok (.aload_n 0, 1) := by decide +kernel
theorem d_R_happen_65 : decode b_R_happen 65 = .ok (.getfield 34, 3) := by decide +kernel
theorem d_R_happen_68 : decode b_R_happen 68 = .ok (.getfield 159, 3) := by decide +kernel
theorem d_R_happen_71 : decode b_R_happen 71 = .ok (.aload_n 0, 1) := by decide +kernel
theorem d_R_happen_72 : decode b_R_happen 72 = .ok (.getfield 34, 3) := by decide +kernel
theorem d_R_happen_75 : decode b_R_happen 75 = .ok (.getfield 162, 3) := by decide +kernel
theorem d_R_happen_78 : decode b_R_happen 78 = .ok (.invokevirtual 165, 3) := by decide +kernel
theorem d_R_happen_81 : decode b_R_happen 81 = .ok (.goto 33, 3) := by decide +kernel
theorem d_R_happen_84 : decode b_R_happen 84 = .ok (.iconst 0, 1) := by decide +kernel
theorem d_R_happen_85 : decode b_R_happen 85 = .ok (.istore_n 3, 1) := by decide +kernel
theorem d_R_happen_86 : decode b_R_happen 86 = .ok (.iload_n 3, 1) := by decide +kernel
theorem d_R_happen_87 : decode b_R_happen 87 = .ok (.aload_n 0, 1) := by decide +kernel
theorem d_R_happen_88 : decode b_R_happen 88 = .ok (.getfield 34, 3) := by decide +kernel
theorem d_R_happen_91 : decode b_R_happen 91 = .ok (.getfield 162, 3) := by decide +kernel
theorem d_R_happen_94 : decode b_R_happen 94 = .ok (.if_icmp .ge 20, 3) := by decide +kernel
theorem d_R_happen_97 : decode b_R_happen 97 = .ok (.aload_n 1, 1) := by decide +kernel
theorem d_R_happen_98 : decode b_R_happen 98 = .ok (.aload_n 0, 1) := by decide +kernel
theorem d_R_happen_99 : decode b_R_happen 99 = .ok (.getfield 34, 3) := by decide +kernel
theorem d_R_happen_102 : decode b_R_happen 102 = .ok (.getfield 159, 3) := by decide +kernel
theorem d_R_happen_105 : decode b_R_happen 105 = .ok (.invokevirtual 168, 3) := by decide +kernel
theorem d_R_happen_108 : decode b_R_happen 108 = .ok (.iinc 3 1, 3) := by decide +kernel
theorem d_R_happen_111 : decode b_R_happen 111 = .ok (.goto (-25), 3) := by decide +kernel
theorem d_R_happen_114 : decode b_R_happen 114 = .ok (.aload_n 0, 1) := by decide +kernel
theorem d_R_happen_115 : decode b_R_happen 115 = .ok (.getfield 34, 3) := by decide +kernel
theorem d_R_happen_118 : decode b_R_happen 118 = .ok (.getfield 162, 3) := by decide +kernel
theorem d_R_happen_121 : decode b_R_happen 121 = .ok (.iconst 1, 1) := by decide +kernel
theorem d_R_happen_122 : decode b_R_happen 122 = .ok (.if_icmp .lt 8, 3) := by decide +kernel
theorem d_R_happen_125 : decode b_R_happen 125 = .ok (.aload_n 0, 1) := by decide +kernel
theorem d_R_happen_126 : decode b_R_happen 126 = .ok (.aload_n 1, 1) := by decide +kernel
theorem d_R_happen_127 : decode b_R_happen 127 = .ok (.invokevirtual 171, 3) := by decide +kernel
theorem d_R_happen_130 : decode b_R_happen 130 = .ok (.return_, 1) := by decide +kernel
theorem d_R_castShadows_0 : decode b_R_castShadows 0 = .ok (.iconst 0, 1) := by decide +kernel
theorem d_R_castShadows_1 : decode b_R_castShadows 1 = .ok (.istore_n 2, 1) := by decide +kernel
theorem d_R_castShadows_2 : decode b_R_castShadows 2 = .ok (.iload_n 2, 1) := by decide +kernel
theorem d_R_castShadows_3 : decode b_R_castShadows 3 = .ok (.aload_n 1, 1) := by decide +kernel
theorem d_R_castShadows_4 : decode b_R_castShadows 4 = .ok (.getfield 132, 3) := by decide +kernel
theorem d_R_castShadows_7 : decode b_R_castShadows 7 = .ok (.if_icmp .ge 136, 3) := by decide +kernel
theorem d_R_castShadows_10 : decode b_R_castShadows 10 = .ok (.aload_n 1, 1) := by decide +kernel
theorem d_R_castShadows_11 : decode b_R_castShadows 11 = .ok (.getfield 135, 3) := by decide +kernel
theorem d_R_castShadows_14 : decode b_R_castShadows 14 = .ok (.iload_n 2, 1) := by decide +kernel
theorem d_R_castShadows_15 : decode b_R_castShadows 15 = .ok (.invokestatic 97, 3) := by decide +kernel
theorem d_R_castShadows_18 : decode b_R_castShadows 18 = .ok (.istore_n 3, 1) := by decide +kernel
theorem d_R_castShadows_19 : decode b_R_castShadows 19 = .ok (.aload_n 0, 1) := by decide +kernel
theorem d_R_castShadows_20 : decode b_R_castShadows 20 = .ok (.getfield 18, 3) := by decide +kernel
theorem d_R_castShadows_23 : decode b_R_castShadows 23 = .ok (.getfield 91, 3) := by decide +kernel
theorem d_R_castShadows_26 : decode b_R_castShadows 26 = .ok (.iload_n 3, 1) := by decide +kernel
theorem d_R_castShadows_27 : decode b_R_castShadows 27 = .ok (.invokestatic 97, 3) := by decide +kernel
theorem d_R_castShadows_30 : decode b_R_castShadows 30 = .ok (.bipush 14, 2) := by decide +kernel
theorem d_R_castShadows_32 : decode b_R_castShadows 32 = .ok (.if_icmp .ne 105, 3) := by decide +kernel
theorem d_R_castShadows_35 : decode b_R_castShadows 35 = .ok (.aload_n 0, 1) := by decide +kernel
theorem d_R_castShadows_36 : decode b_R_castShadows 36 = .ok (.getfield 18, 3) := by decide +kernel
theorem d_R_castShadows_39 : decode b_R_castShadows 39 = .ok (.getfield 174, 3) := by decide +kernel
theorem d_R_castShadows_42 : decode b_R_castShadows 42 = .ok (.iload_n 3, 1) := by decide +kernel
theorem d_R_castShadows_43 : decode b_R_castShadows 43 = .ok (.invokestatic 97, 3) := by decide +kernel
theorem d_R_castShadows_46 : decode b_R_castShadows 46 = .ok (.aload_n 0, 1) := by decide +kernel
theorem d_R_castShadows_47 : decode b_R_castShadows 47 = .ok (.getfield 34, 3) := by decide +kernel
theorem d_R_castShadows_50 : decode b_R_castShadows 50 = .ok (.getfield 156, 3) := by decide +kernel
theorem d_R_castShadows_53 : decode b_R_castShadows 53 = .ok (.if_icmp .eq 6, 3) := by decide +kernel
theorem d_R_castShadows_56 : decode b_R_castShadows 56 = .ok (.goto 81, 3) := by decide +kernel
theorem d_R_castShadows_59 : decode b_R_castShadows 59 = .ok (.aload_n 0, 1) := by decide +kernel
theorem d_R_castShadows_60 : decode b_R_castShadows 60 = .ok (.getfield 18, 3) := by decide +kernel
theorem d_R_castShadows_63 : decode b_R_castShadows 63 = .ok (.getfield 125, 3) := by decide +kernel
theorem d_R_castShadows_66 : decode b_R_castShadows 66 = .ok (.iload_n 3, 1) := by decide +kernel
theorem d_R_castShadows_67 : decode b_R_castShadows 67 = .ok (.invokestatic 97, 3) := by decide +kernel
theorem d_R_castShadows_70 : decode b_R_castShadows 70 = .ok (.istore 4, 2) := by decide +kernel
theorem d_R_castShadows_72 : decode b_R_castShadows 72 = .ok (.aload_n 0, 1) := by decide +kernel
theorem d_R_castShadows_73 : decode b_R_castShadows 73 = .ok (.getfield 18, 3) := by decide +kernel
theorem d_R_castShadows_76 : decode b_R_castShadows 76 = .ok (.getfield 115, 3) := by decide +kernel
theorem d_R_castShadows_79 : decode b_R_castShadows 79 = .ok (.iload_n 3, 1) := by decide +kernel
theorem d_R_castShadows_80 : decode b_R_castShadows 80 = .ok (.invokestatic 97, 3) := by decide +kernel
theorem d_R_castShadows_83 : decode b_R_castShadows 83 = .ok (.istore 5, 2) := by decide +kernel
theorem d_R_castShadows_85 : decode b_R_castShadows 85 = .ok (.iload 4, 2) := by decide +kernel
theorem d_R_castShadows_87 : decode b_R_castShadows 87 = .ok (.iconst 1, 1) := by decide +kernel
theorem d_R_castShadows_88 : decode b_R_castShadows 88 = .ok (.iand, 1) := by decide +kernel
theorem d_R_castShadows_89 : decode b_R_castShadows 89 = .ok (.iconst 1, 1) := by decide +kernel
theorem d_R_castShadows_90 : decode b_R_castShadows 90 = .ok (.if_icmp .ne 8, 3) := by decide +kernel
theorem d_R_castShadows_93 : decode b_R_castShadows 93 = .ok (.iload 5, 2) := by decide +kernel
theorem d_R_castShadows_95 : decode b_R_castShadows 95 = .ok (.goto 7, 3) := by decide +kernel
theorem d_R_castShadows_98 : decode b_R_castShadows 98 = .ok (.iconst 1, 1) := by decide +kernel
theorem d_R_castShadows_99 : decode b_R_castShadows 99 = .ok (.iload 5, 2) := by decide +kernel
theorem d_R_castShadows_101 : decode b_R_castShadows 101 = .ok (.isub, 1) := by decide +kernel
theorem d_R_castShadows_102 : decode b_R_castShadows 102 = .ok (.istore 6, 2) := by decide +kernel
theorem d_R_castShadows_104 : decode b_R_castShadows 104 = .ok (.aload_n 1, 1) := by decide +kernel
theorem d_R_castShadows_105 : decode b_R_castShadows 105 = .ok (.sipush 10000, 3) := by decide +kernel
theorem d_R_castShadows_108 : decode b_R_castShadows 108 = .ok (.aload_n 0, 1) := by decide +kernel
theorem d_R_castShadows_109 : decode b_R_castShadows 109 = .ok (.getfield 18, 3) := by decide +kernel
theorem d_R_castShadows_112 : decode b_R_castShadows 112 = .ok (.getfield 177, 3) := by decide +kernel
theorem d_R_castShadows_115 : decode b_R_castShadows 115 = .ok (.iload_n 3, 1) := by decide +kernel
theorem d_R_castShadows_116 : decode b_R_castShadows 116 = .ok (.invokestatic 97, 3) := by decide +kernel
theorem d_R_castShadows_119 : decode b_R_castShadows 119 = .ok (.iconst 3, 1) := by decide +kernel
theorem d_R_castShadows_120 : decode b_R_castShadows 120 = .ok (.irem, 1) := by decide +kernel
theorem d_R_castShadows_121 : decode b_R_castShadows 121 = .ok (.iload 6, 2) := by decide +kernel
theorem d_R_castShadows_123 : decode b_R_castShadows 123 = .ok (.iconst 0, 1) := by decide +kernel
theorem d_R_castShadows_124 : decode b_R_castShadows 124 = .ok (.iload 4, 2) := by decide +kernel
theorem d_R_castShadows_126 : decode b_R_castShadows 126 = .ok (.invokestatic 180, 3) := by decide +kernel
theorem d_R_castShadows_129 : decode b_R_castShadows 129 = .ok (.invokestatic 186, 3) := by decide +kernel
theorem d_R_castShadows_132 : decode b_R_castShadows 132 = .ok (.iadd, 1) := by decide +kernel
theorem d_R_castShadows_133 : decode b_R_castShadows 133 = .ok (.invokevirtual 190, 3) := by decide +kernel
theorem d_R_castShadows_136 : decode b_R_castShadows 136 = .ok (.pop, 1) := by decide +kernel
theorem d_R_castShadows_137 : decode b_R_castShadows 137 = .ok (.iinc 2 1, 3) := by decide +kernel
theorem d_R_castShadows_140 : decode b_R_castShadows 140 = .ok (.goto (-138), 3) := by decide +kernel
theorem d_R_castShadows_143 : decode b_R_castShadows 143 = .ok (.return_, 1) := by decide +kernel
theorem d_R_takeTurn_0 : decode b_R_takeTurn 0 = .ok (.aload_n 1, 1) := by decide +kernel
theorem d_R_takeTurn_1 : decode b_R_takeTurn 1 = .ok (.getfield 194, 3) := by decide +kernel
theorem d_R_takeTurn_4 : decode b_R_takeTurn 4 = .ok (.istore_n 3, 1) := by decide +kernel
theorem d_R_takeTurn_5 : decode b_R_takeTurn 5 = .ok (.aload_n 0, 1) := by decide +kernel
theorem d_R_takeTurn_6 : decode b_R_takeTurn 6 = .ok (.getfield 27, 3) := by decide +kernel
theorem d_R_takeTurn_9 : decode b_R_takeTurn 9 = .ok (.aload_n 1, 1) := by decide +kernel
theorem d_R_takeTurn_10 : decode b_R_takeTurn 10 = .ok (.invokevirtual 122, 3) := by decide +kernel
theorem d_R_takeTurn_13 : decode b_R_takeTurn 13 = .ok (.iconst 0, 1) := by decide +kernel
theorem d_R_takeTurn_14 : decode b_R_takeTurn 14 = .ok (.aload_n 0, 1) := by decide +kernel
theorem d_R_takeTurn_15 : decode b_R_takeTurn 15 = .ok (.getfield 27, 3) := by decide +kernel
theorem d_R_takeTurn_18 : decode b_R_takeTurn 18 = .ok (.getfield 141, 3) := by decide +kernel
theorem d_R_takeTurn_21 : decode b_R_takeTurn 21 = .ok (.iconst 3, 1) := by decide +kernel
theorem d_R_takeTurn_22 : decode b_R_takeTurn 22 = .ok (.invokestatic 97, 3) := by decide +kernel
theorem d_R_takeTurn_25 : decode b_R_takeTurn 25 = .ok (.invokestatic 180, 3) := by decide +kernel
theorem d_R_takeTurn_28 : decode b_R_takeTurn 28 = .ok (.istore 4, 2) := by decide +kernel
theorem d_R_takeTurn_30 : decode b_R_takeTurn 30 = .ok (.aload_n 0, 1) := by decide +kernel
theorem d_R_takeTurn_31 : decode b_R_takeTurn 31 = .ok (.getfield 34, 3) := by decide +kernel
theorem d_R_takeTurn_34 : decode b_R_takeTurn 34 = .ok (.iconst 0, 1) := by decide +kernel
theorem d_R_takeTurn_35 : decode b_R_takeTurn 35 = .ok (.iload_n 3, 1) := by decide +kernel
theorem d_R_takeTurn_36 : decode b_R_takeTurn 36 = .ok (.aload_n 0, 1) := by decide +kernel
theorem d_R_takeTurn_37 : decode b_R_takeTurn 37 = .ok (.getfield 27, 3) := by decide +kernel
theorem d_R_takeTurn_40 : decode b_R_takeTurn 40 = .ok (.getfield 141, 3) := by decide +kernel
theorem d_R_takeTurn_43 : decode b_R_takeTurn 43 = .ok (.iconst 0, 1) := by decide +kernel
theorem d_R_takeTurn_44 : decode b_R_takeTurn 44 = .ok (.invokestatic 97, 3) := by decide +kernel
theorem d_R_takeTurn_47 : decode b_R_takeTurn 47 = .ok (.invokevirtual 144, 3) := by decide +kernel
theorem d_R_takeTurn_50 : decode b_R_takeTurn 50 = .ok (.aload_n 0, 1) := by decide +kernel
theorem d_R_takeTurn_51 : decode b_R_takeTurn 51 = .ok (.aload_n 1, 1) := by decide +kernel
theorem d_R_takeTurn_52 : decode b_R_takeTurn 52 = .ok (.aload_n 2, 1) := by decide +kernel
theorem d_R_takeTurn_53 : decode b_R_takeTurn 53 = .ok (.invokevirtual 88, 3) := by decide +kernel
theorem d_R_takeTurn_56 : decode b_R_takeTurn 56 = .ok (.aload_n 1, 1) := by decide +kernel
theorem d_R_takeTurn_57 : decode b_R_takeTurn 57 = .ok (.iload_n 3, 1) := by decide +kernel
theorem d_R_takeTurn_58 : decode b_R_takeTurn 58 = .ok (.iconst 1, 1) := by decide +kernel
theorem d_R_takeTurn_59 : decode b_R_takeTurn 59 = .ok (.invokevirtual 197, 3) := by decide +kernel
theorem d_R_takeTurn_62 : decode b_R_takeTurn 62 = .ok (.istore 5, 2) := by decide +kernel
theorem d_R_takeTurn_64 : decode b_R_takeTurn 64 = .ok (.iload 5, 2) := by decide +kernel
theorem d_R_takeTurn_66 : decode b_R_takeTurn 66 = .ok (.iload 4, 2) := by decide +kernel
theorem d_R_takeTurn_68 : decode b_R_takeTurn 68 = .ok (.if_icmp .le 24, 3) := by decide +kernel
theorem d_R_takeTurn_71 : decode b_R_takeTurn 71 = .ok (.aload_n 1, 1) := by decide +kernel
theorem d_R_takeTurn_72 : decode b_R_takeTurn 72 = .ok (.aload_n 1, 1) := by decide +kernel
theorem d_R_takeTurn_73 : decode b_R_takeTurn 73 = .ok (.iload_n 3, 1) := by decide +kernel
theorem d_R_takeTurn_74 : decode b_R_takeTurn 74 = .ok (.iconst 1, 1) := by decide +kernel
theorem d_R_takeTurn_75 : decode b_R_takeTurn 75 = .ok (.iload 5, 2) := by decide +kernel
theorem d_R_takeTurn_77 : decode b_R_takeTurn 77 = .ok (.iconst 1, 1) := by decide +kernel
theorem d_R_takeTurn_78 : decode b_R_takeTurn 78 = .ok (.isub, 1) := by decide +kernel
theorem d_R_takeTurn_79 : decode b_R_takeTurn 79 = .ok (.invokevirtual 200, 3) := by decide +kernel
theorem d_R_takeTurn_82 : decode b_R_takeTurn 82 = .ok (.iconst 4, 1) := by decide +kernel
theorem d_R_takeTurn_83 : decode b_R_takeTurn 83 = .ok (.invokevirtual 107, 3) := by decide +kernel
theorem d_R_takeTurn_86 : decode b_R_takeTurn 86 = .ok (.iinc 5 (-1), 3) := by decide +kernel
theorem d_R_takeTurn_89 : decode b_R_takeTurn 89 = .ok (.goto (-25), 3) := by decide +kernel
theorem d_R_takeTurn_92 : decode b_R_takeTurn 92 = .ok (.aload_n 1, 1) := by decide +kernel
theorem d_R_takeTurn_93 : decode b_R_takeTurn 93 = .ok (.iconst 1, 1) := by decide +kernel
theorem d_R_takeTurn_94 : decode b_R_takeTurn 94 = .ok (.iload_n 3, 1) := by decide +kernel
theorem d_R_takeTurn_95 : decode b_R_takeTurn 95 = .ok (.isub, 1) := by decide +kernel
theorem d_R_takeTurn_96 : decode b_R_takeTurn 96 = .ok (.putfield 194, 3) := by decide +kernel
theorem d_R_takeTurn_99 : decode b_R_takeTurn 99 = .ok (.aload_n 1, 1) := by decide +kernel
theorem d_R_takeTurn_100 : decode b_R_takeTurn 100 = .ok (.dup, 1) := by decide +kernel
theorem d_R_takeTurn_101 : decode b_R_takeTurn 101 = .ok (.getfield 203, 3) := by decide +kernel
theorem d_R_takeTurn_104 : decode b_R_takeTurn 104 = .ok (.iconst 1, 1) := by decide +kernel
theorem d_R_takeTurn_105 : decode b_R_takeTurn 105 = .ok (.iadd, 1) := by decide +kernel
theorem d_R_takeTurn_106 : decode b_R_takeTurn 106 = .ok (.putfield 203, 3) := by decide +kernel
theorem d_R_takeTurn_109 : decode b_R_takeTurn 109 = .ok (.return_, 1) := by decide +kernel
theorem d_T_init_0 : decode b_T_init 0 = .ok (.aload_n 0, 1) := by decide +kernel
theorem d_T_init_1 : decode b_T_init 1 = .ok (.invokespecial 3, 3) := by decide +kernel
theorem d_T_init_4 : decode b_T_init 4 = .ok (.aload_n 0, 1) := by decide +kernel
theorem d_T_init_5 : decode b_T_init 5 = .ok (.bipush 120, 2) := by decide +kernel
theorem d_T_init_7 : decode b_T_init 7 = .ok (.newarray .int, 2) := by decide +kernel
theorem d_T_init_9 : decode b_T_init 9 = .ok (.putfield 9, 3) := by decide +kernel
theorem d_T_init_12 : decode b_T_init 12 = .ok (.aload_n 0, 1) := by decide +kernel
theorem d_T_init_13 : decode b_T_init 13 = .ok (.bipush 10, 2) := by decide +kernel
theorem d_T_init_15 : decode b_T_init 15 = .ok (.newarray .int, 2) := by decide +kernel
theorem d_T_init_17 : decode b_T_init 17 = .ok (.putfield 15, 3) := by decide +kernel
theorem d_T_init_20 : decode b_T_init 20 = .ok (.aload_n 0, 1) := by decide +kernel
theorem d_T_init_21 : decode b_T_init 21 = .ok (.bipush 10, 2) := by decide +kernel
theorem d_T_init_23 : decode b_T_init 23 = .ok (.newarray .int, 2) := by decide +kernel
theorem d_T_init_25 : decode b_T_init 25 = .ok (.putfield 18, 3) := by decide +kernel
theorem d_T_init_28 : decode b_T_init 28 = .ok (.aload_n 0, 1) := by decide +kernel
theorem d_T_init_29 : decode b_T_init 29 = .ok (.bipush 10, 2) := by decide +kernel
theorem d_T_init_31 : decode b_T_init 31 = .ok (.newarray .int, 2) := by decide +kernel
theorem d_T_init_33 : decode b_T_init 33 = .ok (.putfield 21, 3) := by decide +kernel
theorem d_T_init_36 : decode b_T_init 36 = .ok (.aload_n 0, 1) := by decide +kernel
theorem d_T_init_37 : decode b_T_init 37 = .ok (.bipush 10, 2) := by decide +kernel
theorem d_T_init_39 : decode b_T_init 39 = .ok (.newarray .int, 2) := by decide +kernel
theorem d_T_init_41 : decode b_T_init 41 = .ok (.putfield 24, 3) := by decide +kernel
theorem d_T_init_44 : decode b_T_init 44 = .ok (.return_, 1) := by decide +kernel
theorem d_T_append_0 : decode b_T_append 0 = .ok (.aload_n 0, 1) := by decide +kernel
theorem d_T_append_1 : decode b_T_append 1 = .ok (.getfield 27, 3) := by decide +kernel
theorem d_T_append_4 : decode b_T_append 4 = .ok (.bipush 120, 2) := by decide +kernel
theorem d_T_append_6 : decode b_T_append 6 = .ok (.if_icmp .lt 5, 3) := by decide +kernel
theorem d_T_append_9 : decode b_T_append 9 = .ok (.iconst 0, 1) := by decide +kernel
theorem d_T_append_10 : decode b_T_append 10 = .ok (.ireturn, 1) := by decide +kernel
theorem d_T_append_11 : decode b_T_append 11 = .ok (.aload_n 0, 1) := by decide +kernel
theorem d_T_append_12 : decode b_T_append 12 = .ok (.getfield 9, 3) := by decide +kernel
theorem d_T_append_15 : decode b_T_append 15 = .ok (.aload_n 0, 1) := by decide +kernel
theorem d_T_append_16 : decode b_T_append 16 = .ok (.getfield 27, 3) := by decide +kernel
theorem d_T_append_19 : decode b_T_append 19 = .ok (.iload_n 1, 1) := by decide +kernel
theorem d_T_append_20 : decode b_T_append 20 = .ok (.invokestatic 31, 3) := by decide +kernel
theorem d_T_append_23 : decode b_T_append 23 = .ok (.aload_n 0, 1) := by decide +kernel
theorem d_T_append_24 : decode b_T_append 24 = .ok (.dup, 1) := by decide +kernel
theorem d_T_append_25 : decode b_T_append 25 = .ok (.getfield 27, 3) := by decide +kernel
theorem d_T_append_28 : decode b_T_append 28 = .ok (.iconst 1, 1) := by decide +kernel
theorem d_T_append_29 : decode b_T_append 29 = .ok (.iadd, 1) := by decide +kernel
theorem d_T_append_30 : decode b_T_append 30 = .ok (.putfield 27, 3) := by decide +kernel
theorem d_T_append_33 : decode b_T_append 33 = .ok (.iconst 1, 1) := by decide +kernel
theorem d_T_append_34 : decode b_T_append 34 = .ok (.ireturn, 1) := by decide +kernel
theorem d_T_readText_0 : decode b_T_readText 0 = .ok (.aload_n 0, 1) := by decide +kernel
theorem d_T_readText_1 : decode b_T_readText 1 = .ok (.iconst 0, 1) := by decide +kernel
theorem d_T_readText_2 : decode b_T_readText 2 = .ok (.putfield 35, 3) := by decide +kernel
theorem d_T_readText_5 : decode b_T_readText 5 = .ok (.aload_n 0, 1) := by decide +kernel
theorem d_T_readText_6 : decode b_T_readText 6 = .ok (.iconst 0, 1) := by decide +kernel
theorem d_T_readText_7 : decode b_T_readText 7 = .ok (.putfield 38, 3) := by decide +kernel
theorem d_T_readText_10 : decode b_T_readText 10 = .ok (.iconst 0, 1) := by decide +kernel
theorem d_T_readText_11 : decode b_T_readText 11 = .ok (.istore_n 1, 1) := by decide +kernel
theorem d_T_readText_12 : decode b_T_readText 12 = .ok (.iload_n 1, 1) := by decide +kernel
theorem d_T_readText_13 : decode b_T_readText 13 = .ok (.bipush 10, 2) := by decide +kernel
theorem d_T_readText_15 : decode b_T_readText 15 = .ok (.if_icmp .ge 49, 3) := by decide +kernel
theorem d_T_readText_18 : decode b_T_readText 18 = .ok (.aload_n 0, 1) := by decide +kernel
theorem d_T_readText_19 : decode b_T_readText 19 = .ok (.invokevirtual 41, 3) := by decide +kernel
theorem d_T_readText_22 : decode b_T_readText 22 = .ok (.ifCond .ne 8, 3) := by decide +kernel
theorem d_T_readText_25 : decode b_T_readText 25 = .ok (.aload_n 0, 1) := by decide +kernel
theorem d_T_readText_26 : decode b_T_readText 26 = .ok (.getfield 35, 3) := by decide +kernel
theorem d_T_readText_29 : decode b_T_readText 29 = .ok (.ireturn, 1) := by decide +kernel
theorem d_T_readText_30 : decode b_T_readText 30 = .ok (.aload_n 0, 1) := by decide +kernel
theorem d_T_readText_31 : decode b_T_readText 31 = .ok (.getfield 35, 3) := by decide +kernel
theorem d_T_readText_34 : decode b_T_readText 34 = .ok (.aload_n 0, 1) := by decide +kernel
theorem d_T_readText_35 : decode b_T_readText 35 = .ok (.getfield 27, 3) := by decide +kernel
theorem d_T_readText_38 : decode b_T_readText 38 = .ok (.if_icmp .lt 6, 3) := by decide +kernel
theorem d_T_readText_41 : decode b_T_readText 41 = .ok (.bipush (-2), 2) := by decide +kernel
theorem d_T_readText_43 : decode b_T_readText 43 = .ok (.ireturn, 1) := by decide +kernel
theorem d_T_readText_44 : decode b_T_readText 44 = .ok (.aload_n 0, 1) := by decide +kernel
theorem d_T_readText_45 : decode b_T_readText 45 = .ok (.bipush 59, 2) := by decide +kernel
theorem d_T_readText_47 : decode b_T_readText 47 = .ok (.invokevirtual 45, 3) := by decide +kernel
theorem d_T_readText_50 : decode b_T_readText 50 = .ok (.ifCond .ne 8, 3) := by decide +kernel
theorem d_T_readText_53 : decode b_T_readText 53 = .ok (.aload_n 0, 1) := by decide +kernel
theorem d_T_readText_54 : decode b_T_readText 54 = .ok (.getfield 35, 3) := by decide +kernel
theorem d_T_readText_57 : decode b_T_readText 57 = .ok (.ireturn, 1) := by decide +kernel
theorem d_T_readText_58 : decode b_T_readText 58 = .ok (.iinc 1 1, 3) := by decide +kernel
theorem d_T_readText_61 : decode b_T_readText 61 = .ok (.goto (-49), 3) := by decide +kernel
theorem d_T_readText_64 : decode b_T_readText 64 = .ok (.aload_n 0, 1) := by decide +kernel
theorem d_T_readText_65 : decode b_T_readText 65 = .ok (.getfield 35, 3) := by decide +kernel
theorem d_T_readText_68 : decode b_T_readText 68 = .ok (.ireturn, 1) := by decide +kernel
theorem d_T_readLine_0 : decode b_T_readLine 0 = .ok (.aload_n 0, 1) := by decide +kernel
theorem d_T_readLine_1 : decode b_T_readLine 1 = .ok (.invokevirtual 49, 3) := by decide +kernel
theorem d_T_readLine_4 : decode b_T_readLine 4 = .ok (.istore_n 1, 1) := by decide +kernel
theorem d_T_readLine_5 : decode b_T_readLine 5 = .ok (.iload_n 1, 1) := by decide +kernel
theorem d_T_readLine_6 : decode b_T_readLine 6 = .ok (.ifCond .ge 5, 3) := by decide +kernel
theorem d_T_readLine_9 : decode b_T_readLine 9 = .ok (.iconst 0, 1) := by decide +kernel
theorem d_T_readLine_10 : decode b_T_readLine 10 = .ok (.ireturn, 1) := by decide +kernel
theorem d_T_readLine_11 : decode b_T_readLine 11 = .ok (.aload_n 0, 1) := by decide +kernel
theorem d_T_readLine_12 : decode b_T_readLine 12 = .ok (.iconst 1, 1) := by decide +kernel
theorem d_T_readLine_13 : decode b_T_readLine 13 = .ok (.invokevirtual 53, 3) := by decide +kernel
theorem d_T_readLine_16 : decode b_T_readLine 16 = .ok (.istore_n 2, 1) := by decide +kernel
theorem d_T_readLine_17 : decode b_T_readLine 17 = .ok (.iload_n 2, 1) := by decide +kernel
theorem d_T_readLine_18 : decode b_T_readLine 18 = .ok (.ifCond .lt 12, 3) := by decide +kernel
theorem d_T_readLine_21 : decode b_T_readLine 21 = .ok (.aload_n 0, 1) := by decide +kernel
theorem d_T_readLine_22 : decode b_T_readLine 22 = .ok (.bipush 32, 2) := by decide +kernel
theorem d_T_readLine_24 : decode b_T_readLine 24 = .ok (.invokevirtual 45, 3) := by decide +kernel
theorem d_T_readLine_27 : decode b_T_readLine 27 = .ok (.ifCond .ne 5, 3) := by decide +kernel
theorem d_T_readLine_30 : decode b_T_readLine 30 = .ok (.iconst 0, 1) := by decide +kernel
theorem d_T_readLine_31 : decode b_T_readLine 31 = .ok (.ireturn, 1) := by decide +kernel
theorem d_T_readLine_32 : decode b_T_readLine 32 = .ok (.aload_n 0, 1) := by decide +kernel
theorem d_T_readLine_33 : decode b_T_readLine 33 = .ok (.iconst 3, 1) := by decide +kernel
theorem d_T_readLine_34 : decode b_T_readLine 34 = .ok (.invokevirtual 53, 3) := by decide +kernel
theorem d_T_readLine_37 : decode b_T_readLine 37 = .ok (.istore_n 3, 1) := by decide +kernel
theorem d_T_readLine_38 : decode b_T_readLine 38 = .ok (.iload_n 3, 1) := by decide +kernel
theorem d_T_readLine_39 : decode b_T_readLine 39 = .ok (.ifCond .lt 12, 3) := by decide +kernel
theorem d_T_readLine_42 : decode b_T_readLine 42 = .ok (.aload_n 0, 1) := by decide +kernel
theorem d_T_readLine_43 : decode b_T_readLine 43 = .ok (.bipush 32, 2) := by decide +kernel
theorem d_T_readLine_45 : decode b_T_readLine 45 = .ok (.invokevirtual 45, 3) := by decide +kernel
theorem d_T_readLine_48 : decode b_T_readLine 48 = .ok (.ifCond .ne 5, 3) := by decide +kernel
theorem d_T_readLine_51 : decode b_T_readLine 51 = .ok (.iconst 0, 1) := by decide +kernel
theorem d_T_readLine_52 : decode b_T_readLine 52 = .ok (.ireturn, 1) := by decide +kernel
theorem d_T_readLine_53 : decode b_T_readLine 53 = .ok (.aload_n 0, 1) := by decide +kernel
theorem d_T_readLine_54 : decode b_T_readLine 54 = .ok (.iconst 3, 1) := by decide +kernel
theorem d_T_readLine_55 : decode b_T_readLine 55 = .ok (.invokevirtual 53, 3) := by decide +kernel
theorem d_T_readLine_58 : decode b_T_readLine 58 = .ok (.istore 4, 2) := by decide +kernel
theorem d_T_readLine_60 : decode b_T_readLine 60 = .ok (.iload 4, 2) := by decide +kernel
theorem d_T_readLine_62 : decode b_T_readLine 62 = .ok (.ifCond .lt 12, 3) := by decide +kernel
theorem d_T_readLine_65 : decode b_T_readLine 65 = .ok (.aload_n 0, 1) := by decide +kernel
theorem d_T_readLine_66 : decode b_T_readLine 66 = .ok (.bipush 32, 2) := by decide +kernel
theorem d_T_readLine_68 : decode b_T_readLine 68 = .ok (.invokevirtual 45, 3) := by decide +kernel
theorem d_T_readLine_71 : decode b_T_readLine 71 = .ok (.ifCond .ne 5, 3) := by decide +kernel
theorem d_T_readLine_74 : decode b_T_readLine 74 = .ok (.iconst 0, 1) := by decide +kernel
theorem d_T_readLine_75 : decode b_T_readLine 75 = .ok (.ireturn, 1) := by decide +kernel
theorem d_T_readLine_76 : decode b_T_readLine 76 = .ok (.aload_n 0, 1) := by decide +kernel
theorem d_T_readLine_77 : decode b_T_readLine 77 = .ok (.bipush 45, 2) := by decide +kernel
theorem d_T_readLine_79 : decode b_T_readLine 79 = .ok (.invokevirtual 45, 3) := by decide +kernel
theorem d_T_readLine_82 : decode b_T_readLine 82 = .ok (.istore 5, 2) := by decide +kernel
theorem d_T_readLine_84 : decode b_T_readLine 84 = .ok (.aload_n 0, 1) := by decide +kernel
theorem d_T_readLine_85 : decode b_T_readLine 85 = .ok (.bipush 9, 2) := by decide +kernel
theorem d_T_readLine_87 : decode b_T_readLine 87 = .ok (.invokevirtual 53, 3) := by decide +kernel
theorem d_T_readLine_90 : decode b_T_readLine 90 = .ok (.istore 6, 2) := by decide +kernel
theorem d_T_readLine_92 : decode b_T_readLine 92 = .ok (.iload 6, 2) := by decide +kernel
theorem d_T_readLine_94 : decode b_T_readLine 94 = .ok (.ifCond .ge 5, 3) := by decide +kernel
theorem d_T_readLine_97 : decode b_T_readLine 97 = .ok (.iconst 0, 1) := by decide +kernel
theorem d_T_readLine_98 : decode b_T_readLine 98 = .ok (.ireturn, 1) := by decide +kernel
theorem d_T_readLine_99 : decode b_T_readLine 99 = .ok (.aload_n 0, 1) := by decide +kernel
theorem d_T_readLine_100 : decode b_T_readLine 100 = .ok (.getfield 15, 3) := by decide +kernel
theorem d_T_readLine_103 : decode b_T_readLine 103 = .ok (.aload_n 0, 1) := by decide +kernel
theorem d_T_readLine_104 : decode b_T_readLine 104 = .ok (.getfield 38, 3) := by decide +kernel
theorem d_T_readLine_107 : decode b_T_readLine 107 = .ok (.iload_n 1, 1) := by decide +kernel
theorem d_T_readLine_108 : decode b_T_readLine 108 = .ok (.invokestatic 31, 3) := by decide +kernel
theorem d_T_readLine_111 : decode b_T_readLine 111 = .ok (.aload_n 0, 1) := by decide +kernel
theorem d_T_readLine_112 : decode b_T_readLine 112 = .ok (.getfield 18, 3) := by decide +kernel
theorem d_T_readLine_115 : decode b_T_readLine 115 = .ok (.aload_n 0, 1) := by decide +kernel
theorem d_T_readLine_116 : decode b_T_readLine 116 = .ok (.getfield 38, 3) := by decide +kernel
theorem d_T_readLine_119 : decode b_T_readLine 119 = .ok (.iload_n 2, 1) := by decide +kernel
theorem d_T_readLine_120 : decode b_T_readLine 120 = .ok (.invokestatic 31, 3) := by decide +kernel
theorem d_T_readLine_123 : decode b_T_readLine 123 = .ok (.aload_n 0, 1) := by decide +kernel
theorem d_T_readLine_124 : decode b_T_readLine 124 = .ok (.getfield 21, 3) := by decide +kernel
theorem d_T_readLine_127 : decode b_T_readLine 127 = .ok (.aload_n 0, 1) := by decide +kernel
theorem d_T_readLine_128 : decode b_T_readLine 128 = .ok (.getfield 38, 3) := by decide +kernel
theorem d_T_readLine_131 : decode b_T_readLine 131 = .ok (.bipush 10, 2) := by decide +kernel
theorem d_T_readLine_133 : decode b_T_readLine 133 = .ok (.iload_n 3, 1) := by decide +kernel
theorem d_T_readLine_134 : decode b_T_readLine 134 = .ok (.imul, 1) := by decide +kernel
theorem d_T_readLine_135 : decode b_T_readLine 135 = .ok (.iload 4, 2) := by decide +kernel
theorem d_T_readLine_137 : decode b_T_readLine 137 = .ok (.iadd, 1) := by decide +kernel
theorem d_T_readLine_138 : decode b_T_readLine 138 = .ok (.invokestatic 31, 3) := by decide +kernel
theorem d_T_readLine_141 : decode b_T_readLine 141 = .ok (.aload_n 0, 1) := by decide +kernel
theorem d_T_readLine_142 : decode b_T_readLine 142 = .ok (.getfield 24, 3) := by decide +kernel
theorem d_T_readLine_145 : decode b_T_readLine 145 = .ok (.aload_n 0, 1) := by decide +kernel
theorem d_T_readLine_146 : decode b_T_readLine 146 = .ok (.getfield 38, 3) := by decide +kernel
theorem d_T_readLine_149 : decode b_T_readLine 149 = .ok (.iload 5, 2) := by decide +kernel
theorem d_T_readLine_151 : decode b_T_readLine 151 = .ok (.ifCond .eq 9, 3) := by decide +kernel
theorem d_T_readLine_154 : decode b_T_readLine 154 = .ok (.iload 6, 2) := by decide +kernel
theorem d_T_readLine_156 : decode b_T_readLine 156 = .ok (.ineg, 1) := by decide +kernel
theorem d_T_readLine_157 : decode b_T_readLine 157 = .ok (.goto 5, 3) := by decide +kernel
theorem d_T_readLine_160 : decode b_T_readLine 160 = .ok (.iload 6, 2) := by decide +kernel
theorem d_T_readLine_162 : decode b_T_readLine 162 = .ok (.invokestatic 31, 3) := by decide +kernel
theorem d_T_readLine_165 : decode b_T_readLine 165 = .ok (.aload_n 0, 1) := by decide +kernel
theorem d_T_readLine_166 : decode b_T_readLine 166 = .ok (.dup, 1) := by decide +kernel
theorem d_T_readLine_167 : decode b_T_readLine 167 = .ok (.getfield 38, 3) := by decide +kernel
theorem d_T_readLine_170 : decode b_T_readLine 170 = .ok (.iconst 1, 1) := by decide +kernel
theorem d_T_readLine_171 : decode b_T_readLine 171 = .ok (.iadd, 1) := by decide +kernel
theorem d_T_readLine_172 : decode b_T_readLine 172 = .ok (.putfield 38, 3) := by decide +kernel
theorem d_T_readLine_175 : decode b_T_readLine 175 = .ok (.iconst 1, 1) := by decide +kernel
theorem d_T_readLine_176 : decode b_T_readLine 176 = .ok (.ireturn, 1) := by decide +kernel
theorem d_T_readWord_0 : decode b_T_readWord 0 = .ok (.iconst 0, 1) := by decide +kernel
theorem d_T_readWord_1 : decode b_T_readWord 1 = .ok (.istore_n 1, 1) := by decide +kernel
theorem d_T_readWord_2 : decode b_T_readWord 2 = .ok (.iconst 0, 1) := by decide +kernel
theorem d_T_readWord_3 : decode b_T_readWord 3 = .ok (.istore_n 2, 1) := by decide +kernel
theorem d_T_readWord_4 : decode b_T_readWord 4 = .ok (.iload_n 2, 1) := by decide +kernel
theorem d_T_readWord_5 : decode b_T_readWord 5 = .ok (.bipush 15, 2) := by decide +kernel
theorem d_T_readWord_7 : decode b_T_readWord 7 = .ok (.if_icmp .ge 57, 3) := by decide +kernel
theorem d_T_readWord_10 : decode b_T_readWord 10 = .ok (.aload_n 0, 1) := by decide +kernel
theorem d_T_readWord_11 : decode b_T_readWord 11 = .ok (.iload_n 2, 1) := by decide +kernel
theorem d_T_readWord_12 : decode b_T_readWord 12 = .ok (.invokevirtual 57, 3) := by decide +kernel
theorem d_T_readWord_15 : decode b_T_readWord 15 = .ok (.istore_n 3, 1) := by decide +kernel
theorem d_T_readWord_16 : decode b_T_readWord 16 = .ok (.iload_n 3, 1) := by decide +kernel
theorem d_T_readWord_17 : decode b_T_readWord 17 = .ok (.ifCond .le 35, 3) := by decide +kernel
theorem d_T_readWord_20 : decode b_T_readWord 20 = .ok (.aload_n 0, 1) := by decide +kernel
theorem d_T_readWord_21 : decode b_T_readWord 21 = .ok (.getfield 9, 3) := by decide +kernel
theorem d_T_readWord_24 : decode b_T_readWord 24 = .ok (.aload_n 0, 1) := by decide +kernel
theorem d_T_readWord_25 : decode b_T_readWord 25 = .ok (.getfield 35, 3) := by decide +kernel
theorem d_T_readWord_28 : decode b_T_readWord 28 = .ok (.iload_n 3, 1) := by decide +kernel
theorem d_T_readWord_29 : decode b_T_readWord 29 = .ok (.iadd, 1) := by decide +kernel
theorem d_T_readWord_30 : decode b_T_readWord 30 = .ok (.iconst 1, 1) := by decide +kernel
theorem d_T_readWord_31 : decode b_T_readWord 31 = .ok (.isub, 1) := by decide +kernel
theorem d_T_readWord_32 : decode b_T_readWord 32 = .ok (.invokestatic 60, 3) := by decide +kernel
theorem d_T_readWord_35 : decode b_T_readWord 35 = .ok (.bipush 32, 2) := by decide +kernel
theorem d_T_readWord_37 : decode b_T_readWord 37 = .ok (.if_icmp .ne 15, 3) := by decide +kernel
theorem d_T_readWord_40 : decode b_T_readWord 40 = .ok (.aload_n 0, 1) := by decide +kernel
theorem d_T_readWord_41 : decode b_T_readWord 41 = .ok (.dup, 1) := by decide +kernel
theorem d_T_readWord_42 : decode b_T_readWord 42 = .ok (.getfield 35, 3) := by decide +kernel
theorem d_T_readWord_45 : decode b_T_readWord 45 = .ok (.iload_n 3, 1) := by decide +kernel
theorem d_T_readWord_46 : decode b_T_readWord 46 = .ok (.iadd, 1) := by decide +kernel
theorem d_T_readWord_47 : decode b_T_readWord 47 = .ok (.putfield 35, 3) := by decide +kernel
theorem d_T_readWord_50 : decode b_T_readWord 50 = .ok (.iload_n 2, 1) := by decide +kernel
theorem d_T_readWord_51 : decode b_T_readWord 51 = .ok (.ireturn, 1) := by decide +kernel
theorem d_T_readWord_52 : decode b_T_readWord 52 = .ok (.iload_n 1, 1) := by decide +kernel
theorem d_T_readWord_53 : decode b_T_readWord 53 = .ok (.iload_n 3, 1) := by decide +kernel
theorem d_T_readWord_54 : decode b_T_readWord 54 = .ok (.invokestatic 64, 3) := by decide +kernel
theorem d_T_readWord_57 : decode b_T_readWord 57 = .ok (.istore_n 1, 1) := by decide +kernel
theorem d_T_readWord_58 : decode b_T_readWord 58 = .ok (.iinc 2 1, 3) := by decide +kernel
theorem d_T_readWord_61 : decode b_T_readWord 61 = .ok (.goto (-57), 3) := by decide +kernel
theorem d_T_readWord_64 : decode b_T_readWord 64 = .ok (.aload_n 0, 1) := by decide +kernel
theorem d_T_readWord_65 : decode b_T_readWord 65 = .ok (.dup, 1) := by decide +kernel
theorem d_T_readWord_66 : decode b_T_readWord 66 = .ok (.getfield 35, 3) := by decide +kernel
theorem d_T_readWord_69 : decode b_T_readWord 69 = .ok (.iload_n 1, 1) := by decide +kernel
theorem d_T_readWord_70 : decode b_T_readWord 70 = .ok (.iadd, 1) := by decide +kernel
theorem d_T_readWord_71 : decode b_T_readWord 71 = .ok (.putfield 35, 3) := by decide +kernel
theorem d_T_readWord_74 : decode b_T_readWord 74 = .ok (.iconst (-1), 1) := by decide +kernel
theorem d_T_readWord_75 : decode b_T_readWord 75 = .ok (.ireturn, 1) := by decide +kernel
theorem d_T_lettersAlike_0 : decode b_T_lettersAlike 0 = .ok (.iconst 0, 1) := by decide +kernel
theorem d_T_lettersAlike_1 : decode b_T_lettersAlike 1 = .ok (.istore_n 2, 1) := by decide +kernel
theorem d_T_lettersAlike_2 : decode b_T_lettersAlike 2 = .ok (.iload_n 2, 1) := by decide +kernel
theorem d_T_lettersAlike_3 : decode b_T_lettersAlike 3 = .ok (.bipush 7, 2) := by decide +kernel
theorem d_T_lettersAlike_5 : decode b_T_lettersAlike 5 = .ok (.if_icmp .ge 79, 3) := by decide +kernel
theorem d_T_lettersAlike_8 : decode b_T_lettersAlike 8 = .ok (.aload_n 0, 1) := by decide +kernel
theorem d_T_lettersAlike_9 : decode b_T_lettersAlike 9 = .ok (.getfield 35, 3) := by decide +kernel
theorem d_T_lettersAlike_12 : decode b_T_lettersAlike 12 = .ok (.iload_n 2, 1) := by decide +kernel
theorem d_T_lettersAlike_13 : decode b_T_lettersAlike 13 = .ok (.iadd, 1) := by decide +kernel
theorem d_T_lettersAlike_14 : decode b_T_lettersAlike 14 = .ok (.aload_n 0, 1) := by decide +kernel
theorem d_T_lettersAlike_15 : decode b_T_lettersAlike 15 = .ok (.getfield 27, 3) := by decide +kernel
theorem d_T_lettersAlike_18 : decode b_T_lettersAlike 18 = .ok (.if_icmp .ge 66, 3) := by decide +kernel
theorem d_T_lettersAlike_21 : decode b_T_lettersAlike 21 = .ok (.iload_n 1, 1) := by decide +kernel
theorem d_T_lettersAlike_22 : decode b_T_lettersAlike 22 = .ok (.bipush 7, 2) := by decide +kernel
theorem d_T_lettersAlike_24 : decode b_T_lettersAlike 24 = .ok (.imul, 1) := by decide +kernel
theorem d_T_lettersAlike_25 : decode b_T_lettersAlike 25 = .ok (.iload_n 2, 1) := by decide +kernel
theorem d_T_lettersAlike_26 : decode b_T_lettersAlike 26 = .ok (.iadd, 1) := by decide +kernel
theorem d_T_lettersAlike_27 : decode b_T_lettersAlike 27 = .ok (.istore_n 3, 1) := by decide +kernel
theorem d_T_lettersAlike_28 : decode b_T_lettersAlike 28 = .ok (.iload_n 3, 1) := by decide +kernel
theorem d_T_lettersAlike_29 : decode b_T_lettersAlike 29 = .ok (.ifCond .lt 34, 3) := by decide +kernel
theorem d_T_lettersAlike_32 : decode b_T_lettersAlike 32 = .ok (.iload_n 3, 1) := by decide +kernel
theorem d_T_lettersAlike_33 : decode b_T_lettersAlike 33 = .ok (.ldc 70, 2) := by decide +kernel
theorem d_T_lettersAlike_35 : decode b_T_lettersAlike 35 = .ok (.invokevirtual 72, 3) := by decide +kernel
theorem d_T_lettersAlike_38 : decode b_T_lettersAlike 38 = .ok (.if_icmp .ge 25, 3) := by decide +kernel
theorem d_T_lettersAlike_41 : decode b_T_lettersAlike 41 = .ok (.ldc 70, 2) := by decide +kernel
theorem d_T_lettersAlike_43 : decode b_T_lettersAlike 43 = .ok (.iload_n 3, 1) := by decide +kernel
theorem d_T_lettersAlike_44 : decode b_T_lettersAlike 44 = .ok (.invokevirtual 76, 3) := by decide +kernel
theorem d_T_lettersAlike_47 : decode b_T_lettersAlike 47 = .ok (.aload_n 0, 1) := by decide +kernel
theorem d_T_lettersAlike_48 : decode b_T_lettersAlike 48 = .ok (.getfield 9, 3) := by decide +kernel
theorem d_T_lettersAlike_51 : decode b_T_lettersAlike 51 = .ok (.aload_n 0, 1) := by decide +kernel
theorem d_T_lettersAlike_52 : decode b_T_lettersAlike 52 = .ok (.getfield 35, 3) := by decide +kernel
theorem d_T_lettersAlike_55 : decode b_T_lettersAlike 55 = .ok (.iload_n 2, 1) := by decide +kernel
theorem d_T_lettersAlike_56 : decode b_T_lettersAlike 56 = .ok (.iadd, 1) := by decide +kernel
theorem d_T_lettersAlike_57 : decode b_T_lettersAlike 57 = .ok (.invokestatic 60, 3) := by decide +kernel
theorem d_T_lettersAlike_60 : decode b_T_lettersAlike 60 = .ok (.if_icmp .eq 5, 3) := by decide +kernel
theorem d_T_lettersAlike_63 : decode b_T_lettersAlike 63 = .ok (.iload_n 2, 1) := by decide +kernel
theorem d_T_lettersAlike_64 : decode b_T_lettersAlike 64 = .ok (.ireturn, 1) := by decide +kernel
theorem d_T_lettersAlike_65 : decode b_T_lettersAlike 65 = .ok (.iinc 2 1, 3) := by decide +kernel
theorem d_T_lettersAlike_68 : decode b_T_lettersAlike 68 = .ok (.ldc 70, 2) := by decide +kernel
theorem d_T_lettersAlike_70 : decode b_T_lettersAlike 70 = .ok (.iload_n 3, 1) := by decide +kernel
theorem d_T_lettersAlike_71 : decode b_T_lettersAlike 71 = .ok (.invokevirtual 76, 3) := by decide +kernel
theorem d_T_lettersAlike_74 : decode b_T_lettersAlike 74 = .ok (.bipush 32, 2) := by decide +kernel
theorem d_T_lettersAlike_76 : decode b_T_lettersAlike 76 = .ok (.if_icmp .ne 5, 3) := by decide +kernel
theorem d_T_lettersAlike_79 : decode b_T_lettersAlike 79 = .ok (.iload_n 2, 1) := by decide +kernel
theorem d_T_lettersAlike_80 : decode b_T_lettersAlike 80 = .ok (.ireturn, 1) := by decide +kernel
theorem d_T_lettersAlike_81 : decode b_T_lettersAlike 81 = .ok (.goto (-79), 3) := by decide +kernel
theorem d_T_lettersAlike_84 : decode b_T_lettersAlike 84 = .ok (.iload_n 2, 1) := by decide +kernel
theorem d_T_lettersAlike_85 : decode b_T_lettersAlike 85 = .ok (.ireturn, 1) := by decide +kernel
theorem d_T_readDigit_0 : decode b_T_readDigit 0 = .ok (.aload_n 0, 1) := by decide +kernel
theorem d_T_readDigit_1 : decode b_T_readDigit 1 = .ok (.getfield 35, 3) := by decide +kernel
theorem d_T_readDigit_4 : decode b_T_readDigit 4 = .ok (.aload_n 0, 1) := by decide +kernel
theorem d_T_readDigit_5 : decode b_T_readDigit 5 = .ok (.getfield 27, 3) := by decide +kernel
theorem d_T_readDigit_8 : decode b_T_readDigit 8 = .ok (.if_icmp .ge 20, 3) := by decide +kernel
theorem d_T_readDigit_11 : decode b_T_readDigit 11 = .ok (.aload_n 0, 1) := by decide +kernel
theorem d_T_readDigit_12 : decode b_T_readDigit 12 = .ok (.getfield 9, 3) := by decide +kernel
theorem d_T_readDigit_15 : decode b_T_readDigit 15 = .ok (.aload_n 0, 1) := by decide +kernel
theorem d_T_readDigit_16 : decode b_T_readDigit 16 = .ok (.getfield 35, 3) := by decide +kernel
theorem d_T_readDigit_19 : decode b_T_readDigit 19 = .ok (.invokestatic 60, 3) := by decide +kernel
theorem d_T_readDigit_22 : decode b_T_readDigit 22 = .ok (.bipush 48, 2) := by decide +kernel
theorem d_T_readDigit_24 : decode b_T_readDigit 24 = .ok (.isub, 1) := by decide +kernel
theorem d_T_readDigit_25 : decode b_T_readDigit 25 = .ok (.goto 4, 3) := by decide +kernel
theorem d_T_readDigit_28 : decode b_T_readDigit 28 = .ok (.iconst (-1), 1) := by decide +kernel
theorem d_T_readDigit_29 : decode b_T_readDigit 29 = .ok (.istore_n 2, 1) := by decide +kernel
theorem d_T_readDigit_30 : decode b_T_readDigit 30 = .ok (.iload_n 2, 1) := by decide +kernel
theorem d_T_readDigit_31 : decode b_T_readDigit 31 = .ok (.ifCond .lt 8, 3) := by decide +kernel
theorem d_T_readDigit_34 : decode b_T_readDigit 34 = .ok (.iload_n 2, 1) := by decide +kernel
theorem d_T_readDigit_35 : decode b_T_readDigit 35 = .ok (.iload_n 1, 1) := by decide +kernel
theorem d_T_readDigit_36 : decode b_T_readDigit 36 = .ok (.if_icmp .le 5, 3) := by decide +kernel
theorem d_T_readDigit_39 : decode b_T_readDigit 39 = .ok (.iconst (-1), 1) := by decide +kernel
theorem d_T_readDigit_40 : decode b_T_readDigit 40 = .ok (.ireturn, 1) := by decide +kernel
theorem d_T_readDigit_41 : decode b_T_readDigit 41 = .ok (.aload_n 0, 1) := by decide +kernel
theorem d_T_readDigit_42 : decode b_T_readDigit 42 = .ok (.dup, 1) := by decide +kernel
theorem d_T_readDigit_43 : decode b_T_readDigit 43 = .ok (.getfield 35, 3) := by decide +kernel
theorem d_T_readDigit_46 : decode b_T_readDigit 46 = .ok (.iconst 1, 1) := by decide +kernel
theorem d_T_readDigit_47 : decode b_T_readDigit 47 = .ok (.iadd, 1) := by decide +kernel
theorem d_T_readDigit_48 : decode b_T_readDigit 48 = .ok (.putfield 35, 3) := by decide +kernel
theorem d_T_readDigit_51 : decode b_T_readDigit 51 = .ok (.iload_n 2, 1) := by decide +kernel
theorem d_T_readDigit_52 : decode b_T_readDigit 52 = .ok (.ireturn, 1) := by decide +kernel
theorem d_T_skip_0 : decode b_T_skip 0 = .ok (.aload_n 0, 1) := by decide +kernel
theorem d_T_skip_1 : decode b_T_skip 1 = .ok (.getfield 35, 3) := by decide +kernel
theorem d_T_skip_4 : decode b_T_skip 4 = .ok (.aload_n 0, 1) := by decide +kernel
theorem d_T_skip_5 : decode b_T_skip 5 = .ok (.getfield 27, 3) := by decide +kernel
theorem d_T_skip_8 : decode b_T_skip 8 = .ok (.if_icmp .ge 18, 3) := by decide +kernel
theorem d_T_skip_11 : decode b_T_skip 11 = .ok (.aload_n 0, 1) := by decide +kernel
theorem d_T_skip_12 : decode b_T_skip 12 = .ok (.getfield 9, 3) := by decide +kernel
theorem d_T_skip_15 : decode b_T_skip 15 = .ok (.aload_n 0, 1) := by decide +kernel
theorem d_T_skip_16 : decode b_T_skip 16 = .ok (.getfield 35, 3) := by decide +kernel
theorem d_T_skip_19 : decode b_T_skip 19 = .ok (.invokestatic 60, 3) := by decide +kernel
theorem d_T_skip_22 : decode b_T_skip 22 = .ok (.iload_n 1, 1) := by decide +kernel
theorem d_T_skip_23 : decode b_T_skip 23 = .ok (.if_icmp .eq 5, 3) := by decide +kernel
theorem d_T_skip_26 : decode b_T_skip 26 = .ok (.iconst 0, 1) := by decide +kernel
theorem d_T_skip_27 : decode b_T_skip 27 = .ok (.ireturn, 1) := by decide +kernel
theorem d_T_skip_28 : decode b_T_skip 28 = .ok (.aload_n 0, 1) := by decide +kernel
theorem d_T_skip_29 : decode b_T_skip 29 = .ok (.dup, 1) := by decide +kernel
theorem d_T_skip_30 : decode b_T_skip 30 = .ok (.getfield 35, 3) := by decide +kernel
theorem d_T_skip_33 : decode b_T_skip 33 = .ok (.iconst 1, 1) := by decide +kernel
theorem d_T_skip_34 : decode b_T_skip 34 = .ok (.iadd, 1) := by decide +kernel
theorem d_T_skip_35 : decode b_T_skip 35 = .ok (.putfield 35, 3) := by decide +kernel
theorem d_T_skip_38 : decode b_T_skip 38 = .ok (.iconst 1, 1) := by decide +kernel
theorem d_T_skip_39 : decode b_T_skip 39 = .ok (.ireturn, 1) := by decide +kernel
theorem d_L_init_0 : decode b_L_init 0 = .ok (.aload_n 0, 1) := by decide +kernel
theorem d_L_init_1 : decode b_L_init 1 = .ok (.invokespecial 1, 3) := by decide +kernel
theorem d_L_init_4 : decode b_L_init 4 = .ok (.aload_n 0, 1) := by decide +kernel
theorem d_L_init_5 : decode b_L_init 5 = .ok (.new 7, 3) := by decide +kernel
theorem d_L_init_8 : decode b_L_init 8 = .ok (.dup, 1) := by decide +kernel
theorem d_L_init_9 : decode b_L_init 9 = .ok (.invokespecial 9, 3) := by decide +kernel
theorem d_L_init_12 : decode b_L_init 12 = .ok (.putfield 10, 3) := by decide +kernel
theorem d_L_init_15 : decode b_L_init 15 = .ok (.aload_n 0, 1) := by decide +kernel
theorem d_L_init_16 : decode b_L_init 16 = .ok (.new 16, 3) := by decide +kernel
theorem d_L_init_19 : decode b_L_init 19 = .ok (.dup, 1) := by decide +kernel
theorem d_L_init_20 : decode b_L_init 20 = .ok (.aload_n 0, 1) := by decide +kernel
theorem d_L_init_21 : decode b_L_init 21 = .ok (.getfield 10, 3) := by decide +kernel
theorem d_L_init_24 : decode b_L_init 24 = .ok (.invokespecial 18, 3) := by decide +kernel
theorem d_L_init_27 : decode b_L_init 27 = .ok (.putfield 21, 3) := by decide +kernel
theorem d_L_init_30 : decode b_L_init 30 = .ok (.aload_n 0, 1) := by decide +kernel
theorem d_L_init_31 : decode b_L_init 31 = .ok (.new 16, 3) := by decide +kernel
theorem d_L_init_34 : decode b_L_init 34 = .ok (.dup, 1) := by decide +kernel
theorem d_L_init_35 : decode b_L_init 35 = .ok (.aload_n 0, 1) := by decide +kernel
theorem d_L_init_36 : decode b_L_init 36 = .ok (.getfield 10, 3) := by decide +kernel
theorem d_L_init_39 : decode b_L_init 39 = .ok (.invokespecial 18, 3) := by decide +kernel
theorem d_L_init_42 : decode b_L_init 42 = .ok (.putfield 25, 3) := by decide +kernel
theorem d_L_init_45 : decode b_L_init 45 = .ok (.aload_n 0, 1) := by decide +kernel
theorem d_L_init_46 : decode b_L_init 46 = .ok (.iconst 0, 1) := by decide +kernel
theorem d_L_init_47 : decode b_L_init 47 = .ok (.putfield 28, 3) := by decide +kernel
theorem d_L_init_50 : decode b_L_init 50 = .ok (.aload_n 0, 1) := by decide +kernel
theorem d_L_init_51 : decode b_L_init 51 = .ok (.new 16, 3) := by decide +kernel
theorem d_L_init_54 : decode b_L_init 54 = .ok (.dup, 1) := by decide +kernel
theorem d_L_init_55 : decode b_L_init 55 = .ok (.aload_n 0, 1) := by decide +kernel
theorem d_L_init_56 : decode b_L_init 56 = .ok (.getfield 10, 3) := by decide +kernel
theorem d_L_init_59 : decode b_L_init 59 = .ok (.invokespecial 18, 3) := by decide +kernel
theorem d_L_init_62 : decode b_L_init 62 = .ok (.putfield 32, 3) := by decide +kernel
theorem d_L_init_65 : decode b_L_init 65 = .ok (.aload_n 0, 1) := by decide +kernel
theorem d_L_init_66 : decode b_L_init 66 = .ok (.iconst 4, 1) := by decide +kernel
theorem d_L_init_67 : decode b_L_init 67 = .ok (.anewarray 16, 3) := by decide +kernel
theorem d_L_init_70 : decode b_L_init 70 = .ok (.putfield 35, 3) := by decide +kernel
theorem d_L_init_73 : decode b_L_init 73 = .ok (.aload_n 0, 1) := by decide +kernel
theorem d_L_init_74 : decode b_L_init 74 = .ok (.new 39, 3) := by decide +kernel
theorem d_L_init_77 : decode b_L_init 77 = .ok (.dup, 1) := by decide +kernel
theorem d_L_init_78 : decode b_L_init 78 = .ok (.aload_n 0, 1) := by decide +kernel
theorem d_L_init_79 : decode b_L_init 79 = .ok (.getfield 10, 3) := by decide +kernel
theorem d_L_init_82 : decode b_L_init 82 = .ok (.invokespecial 41, 3) := by decide +kernel
theorem d_L_init_85 : decode b_L_init 85 = .ok (.putfield 42, 3) := by decide +kernel
theorem d_L_init_88 : decode b_L_init 88 = .ok (.aload_n 0, 1) := by decide +kernel
theorem d_L_init_89 : decode b_L_init 89 = .ok (.new 46, 3) := by decide +kernel
theorem d_L_init_92 : decode b_L_init 92 = .ok (.dup, 1) := by decide +kernel
theorem d_L_init_93 : decode b_L_init 93 = .ok (.aload_n 0, 1) := by decide +kernel
theorem d_L_init_94 : decode b_L_init 94 = .ok (.getfield 10, 3) := by decide +kernel
theorem d_L_init_97 : decode b_L_init 97 = .ok (.invokespecial 48, 3) := by decide +kernel
theorem d_L_init_100 : decode b_L_init 100 = .ok (.putfield 49, 3) := by decide +kernel
theorem d_L_init_103 : decode b_L_init 103 = .ok (.aload_n 0, 1) := by decide +kernel
theorem d_L_init_104 : decode b_L_init 104 = .ok (.new 53, 3) := by decide +kernel
theorem d_L_init_107 : decode b_L_init 107 = .ok (.dup, 1) := by decide +kernel
theorem d_L_init_108 : decode b_L_init 108 = .ok (.aload_n 0, 1) := by decide +kernel
theorem d_L_init_109 : decode b_L_init 109 = .ok (.getfield 10, 3) := by decide +kernel
theorem d_L_init_112 : decode b_L_init 112 = .ok (.invokespecial 55, 3) := by decide +kernel
theorem d_L_init_115 : decode b_L_init 115 = .ok (.putfield 56, 3) := by decide +kernel
theorem d_L_init_118 : decode b_L_init 118 = .ok (.aload_n 0, 1) := by decide +kernel
theorem d_L_init_119 : decode b_L_init 119 = .ok (.new 60, 3) := by decide +kernel
theorem d_L_init_122 : decode b_L_init 122 = .ok (.dup, 1) := by decide +kernel
theorem d_L_init_123 : decode b_L_init 123 = .ok (.invokespecial 62, 3) := by decide +kernel
theorem d_L_init_126 : decode b_L_init 126 = .ok (.putfield 63, 3) := by decide +kernel
theorem d_L_init_129 : decode b_L_init 129 = .ok (.aload_n 0, 1) := by decide +kernel
theorem d_L_init_130 : decode b_L_init 130 = .ok (.new 60, 3) := by decide +kernel
theorem d_L_init_133 : decode b_L_init 133 = .ok (.dup, 1) := by decide +kernel
theorem d_L_init_134 : decode b_L_init 134 = .ok (.invokespecial 62, 3) := by decide +kernel
theorem d_L_init_137 : decode b_L_init 137 = .ok (.putfield 67, 3) := by decide +kernel
theorem d_L_init_140 : decode b_L_init 140 = .ok (.aload_n 0, 1) := by decide +kernel
theorem d_L_init_141 : decode b_L_init 141 = .ok (.new 70, 3) := by decide +kernel
theorem d_L_init_144 : decode b_L_init 144 = .ok (.dup, 1) := by decide +kernel
theorem d_L_init_145 : decode b_L_init 145 = .ok (.invokespecial 72, 3) := by decide +kernel
theorem d_L_init_148 : decode b_L_init 148 = .ok (.putfield 73, 3) := by decide +kernel
theorem d_L_init_151 : decode b_L_init 151 = .ok (.aload_n 0, 1) := by decide +kernel
theorem d_L_init_152 : decode b_L_init 152 = .ok (.bipush 8, 2) := by decide +kernel
theorem d_L_init_154 : decode b_L_init 154 = .ok (.newarray .int, 2) := by decide +kernel
theorem d_L_init_156 : decode b_L_init 156 = .ok (.putfield 77, 3) := by decide +kernel
theorem d_L_init_159 : decode b_L_init 159 = .ok (.aload_n 0, 1) := by decide +kernel
theorem d_L_init_160 : decode b_L_init 160 = .ok (.iconst 0, 1) := by decide +kernel
theorem d_L_init_161 : decode b_L_init 161 = .ok (.putfield 81, 3) := by decide +kernel
theorem d_L_init_164 : decode b_L_init 164 = .ok (.aload_n 0, 1) := by decide +kernel
theorem d_L_init_165 : decode b_L_init 165 = .ok (.bipush (-2), 2) := by decide +kernel
theorem d_L_init_167 : decode b_L_init 167 = .ok (.putfield 85, 3) := by decide +kernel
theorem d_L_init_170 : decode b_L_init 170 = .ok (.aload_n 0, 1) := by decide +kernel
theorem d_L_init_171 : decode b_L_init 171 = .ok (.bipush (-2), 2) := by decide +kernel
theorem d_L_init_173 : decode b_L_init 173 = .ok (.putfield 88, 3) := by decide +kernel
theorem d_L_init_176 : decode b_L_init 176 = .ok (.iconst 0, 1) := by decide +kernel
theorem d_L_init_177 : decode b_L_init 177 = .ok (.istore_n 1, 1) := by decide +kernel
theorem d_L_init_178 : decode b_L_init 178 = .ok (.iload_n 1, 1) := by decide +kernel
theorem d_L_init_179 : decode b_L_init 179 = .ok (.aload_n 0, 1) := by decide +kernel
theorem d_L_init_180 : decode b_L_init 180 = .ok (.getfield 35, 3) := by decide +kernel
theorem d_L_init_183 : decode b_L_init 183 = .ok (.arraylength, 1) := by decide +kernel
theorem d_L_init_184 : decode b_L_init 184 = .ok (.if_icmp .ge 37, 3) := by decide +kernel
theorem d_L_init_187 : decode b_L_init 187 = .ok (.aload_n 0, 1) := by decide +kernel
theorem d_L_init_188 : decode b_L_init 188 = .ok (.getfield 35, 3) := by decide +kernel
theorem d_L_init_191 : decode b_L_init 191 = .ok (.iload_n 1, 1) := by decide +kernel
theorem d_L_init_192 : decode b_L_init 192 = .ok (.iload_n 1, 1) := by decide +kernel
theorem d_L_init_193 : decode b_L_init 193 = .ok (.ifCond .ne 10, 3) := by decide +kernel
theorem d_L_init_196 : decode b_L_init 196 = .ok (.aload_n 0, 1) := by decide +kernel
theorem d_L_init_197 : decode b_L_init 197 = .ok (.getfield 32, 3) := by decide +kernel
theorem d_L_init_200 : decode b_L_init 200 = .ok (.goto 14, 3) := by decide +kernel
theorem d_L_init_203 : decode b_L_init 203 = .ok (.new 16, 3) := by decide +kernel
theorem d_L_init_206 : decode b_L_init 206 = .ok (.dup, 1) := by decide +kernel
theorem d_L_init_207 : decode b_L_init 207 = .ok (.aload_n 0, 1) := by decide +kernel
theorem d_L_init_208 : decode b_L_init 208 = .ok (.getfield 10, 3) := by decide +kernel
theorem d_L_init_211 : decode b_L_init 211 = .ok (.invokespecial 18, 3) := by decide +kernel
theorem d_L_init_214 : decode b_L_init 214 = .ok (.aastore, 1) := by decide +kernel
theorem d_L_init_215 : decode b_L_init 215 = .ok (.iinc 1 1, 3) := by decide +kernel
theorem d_L_init_218 : decode b_L_init 218 = .ok (.goto (-40), 3) := by decide +kernel
theorem d_L_init_221 : decode b_L_init 221 = .ok (.iconst 0, 1) := by decide +kernel
theorem d_L_init_222 : decode b_L_init 222 = .ok (.istore_n 1, 1) := by decide +kernel
theorem d_L_init_223 : decode b_L_init 223 = .ok (.iload_n 1, 1) := by decide +kernel
theorem d_L_init_224 : decode b_L_init 224 = .ok (.aload_n 0, 1) := by decide +kernel
theorem d_L_init_225 : decode b_L_init 225 = .ok (.getfield 77, 3) := by decide +kernel
theorem d_L_init_228 : decode b_L_init 228 = .ok (.arraylength, 1) := by decide +kernel
theorem d_L_init_229 : decode b_L_init 229 = .ok (.if_icmp .ge 17, 3) := by decide +kernel
theorem d_L_init_232 : decode b_L_init 232 = .ok (.aload_n 0, 1) := by decide +kernel
theorem d_L_init_233 : decode b_L_init 233 = .ok (.getfield 77, 3) := by decide +kernel
theorem d_L_init_236 : decode b_L_init 236 = .ok (.iload_n 1, 1) := by decide +kernel
theorem d_L_init_237 : decode b_L_init 237 = .ok (.bipush (-2), 2) := by decide +kernel
theorem d_L_init_239 : decode b_L_init 239 = .ok (.iastore, 1) := by decide +kernel
theorem d_L_init_240 : decode b_L_init 240 = .ok (.iinc 1 1, 3) := by decide +kernel
theorem d_L_init_243 : decode b_L_init 243 = .ok (.goto (-20), 3) := by decide +kernel
theorem d_L_init_246 : decode b_L_init 246 = .ok (.return_, 1) := by decide +kernel
theorem d_L_card_0 : decode b_L_card 0 = .ok (.iload_n 1, 1) := by decide +kernel
theorem d_L_card_1 : decode b_L_card 1 = .ok (.ifCond .lt 37, 3) := by decide +kernel
theorem d_L_card_4 : decode b_L_card 4 = .ok (.iload_n 1, 1) := by decide +kernel
theorem d_L_card_5 : decode b_L_card 5 = .ok (.bipush 15, 2) := by decide +kernel
theorem d_L_card_7 : decode b_L_card 7 = .ok (.if_icmp .ge 31, 3) := by decide +kernel
theorem d_L_card_10 : decode b_L_card 10 = .ok (.iload_n 2, 1) := by decide +kernel
theorem d_L_card_11 : decode b_L_card 11 = .ok (.invokestatic 91, 3) := by decide +kernel
theorem d_L_card_14 : decode b_L_card 14 = .ok (.ifCond .eq 24, 3) := by decide +kernel
theorem d_L_card_17 : decode b_L_card 17 = .ok (.iload_n 3, 1) := by decide +kernel
theorem d_L_card_18 : decode b_L_card 18 = .ok (.invokestatic 95, 3) := by decide +kernel
theorem d_L_card_21 : decode b_L_card 21 = .ok (.ifCond .eq 17, 3) := by decide +kernel
theorem d_L_card_24 : decode b_L_card 24 = .ok (.iload 4, 2) := by decide +kernel
theorem d_L_card_26 : decode b_L_card 26 = .ok (.bipush (-9), 2) := by decide +kernel
theorem d_L_card_28 : decode b_L_card 28 = .ok (.if_icmp .lt 10, 3) := by decide +kernel
theorem d_L_card_31 : decode b_L_card 31 = .ok (.iload 4, 2) := by decide +kernel
theorem d_L_card_33 : decode b_L_card 33 = .ok (.bipush 9, 2) := by decide +kernel
theorem d_L_card_35 : decode b_L_card 35 = .ok (.if_icmp .le 5, 3) := by decide +kernel
theorem d_L_card_38 : decode b_L_card 38 = .ok (.iconst (-1), 1) := by decide +kernel
theorem d_L_card_39 : decode b_L_card 39 = .ok (.ireturn, 1) := by decide +kernel
theorem d_L_card_40 : decode b_L_card 40 = .ok (.aload_n 0, 1) := by decide +kernel
theorem d_L_card_41 : decode b_L_card 41 = .ok (.getfield 21, 3) := by decide +kernel
theorem d_L_card_44 : decode b_L_card 44 = .ok (.getfield 98, 3) := by decide +kernel
theorem d_L_card_47 : decode b_L_card 47 = .ok (.bipush 24, 2) := by decide +kernel
theorem d_L_card_49 : decode b_L_card 49 = .ok (.if_icmp .lt 6, 3) := by decide +kernel
theorem d_L_card_52 : decode b_L_card 52 = .ok (.bipush (-3), 2) := by decide +kernel
theorem d_L_card_54 : decode b_L_card 54 = .ok (.ireturn, 1) := by decide +kernel
theorem d_L_card_55 : decode b_L_card 55 = .ok (.aload_n 0, 1) := by decide +kernel
theorem d_L_card_56 : decode b_L_card 56 = .ok (.getfield 21, 3) := by decide +kernel
theorem d_L_card_59 : decode b_L_card 59 = .ok (.iload_n 1, 1) := by decide +kernel
theorem d_L_card_60 : decode b_L_card 60 = .ok (.iload_n 2, 1) := by decide +kernel
theorem d_L_card_61 : decode b_L_card 61 = .ok (.iload_n 3, 1) := by decide +kernel
theorem d_L_card_62 : decode b_L_card 62 = .ok (.iload 4, 2) := by decide +kernel
theorem d_L_card_64 : decode b_L_card 64 = .ok (.invokevirtual 101, 3) := by decide +kernel
theorem d_L_card_67 : decode b_L_card 67 = .ok (.ireturn, 1) := by decide +kernel
theorem d_L_feed_0 : decode b_L_feed 0 = .ok (.iload_n 1, 1) := by decide +kernel
theorem d_L_feed_1 : decode b_L_feed 1 = .ok (.ifCond .lt 10, 3) := by decide +kernel
theorem d_L_feed_4 : decode b_L_feed 4 = .ok (.iload_n 1, 1) := by decide +kernel
theorem d_L_feed_5 : decode b_L_feed 5 = .ok (.sipush 255, 3) := by decide +kernel
theorem d_L_feed_8 : decode b_L_feed 8 = .ok (.if_icmp .le 5, 3) := by decide +kernel
theorem d_L_feed_11 : decode b_L_feed 11 = .ok (.iconst (-1), 1) := by decide +kernel
theorem d_L_feed_12 : decode b_L_feed 12 = .ok (.ireturn, 1) := by decide +kernel
theorem d_L_feed_13 : decode b_L_feed 13 = .ok (.aload_n 0, 1) := by decide +kernel
theorem d_L_feed_14 : decode b_L_feed 14 = .ok (.getfield 73, 3) := by decide +kernel
theorem d_L_feed_17 : decode b_L_feed 17 = .ok (.iload_n 1, 1) := by decide +kernel
theorem d_L_feed_18 : decode b_L_feed 18 = .ok (.invokevirtual 105, 3) := by decide +kernel
theorem d_L_feed_21 : decode b_L_feed 21 = .ok (.ifCond .eq 13, 3) := by decide +kernel
theorem d_L_feed_24 : decode b_L_feed 24 = .ok (.aload_n 0, 1) := by decide +kernel
theorem d_L_feed_25 : decode b_L_feed 25 = .ok (.getfield 73, 3) := by decide +kernel
theorem d_L_feed_28 : decode b_L_feed 28 = .ok (.getfield 108, 3) := by decide +kernel
theorem d_L_feed_31 : decode b_L_feed 31 = .ok (.goto 5, 3) := by decide +kernel
theorem d_L_feed_34 : decode b_L_feed 34 = .ok (.bipush (-3), 2) := by decide +kernel
theorem d_L_feed_36 : decode b_L_feed 36 = .ok (.ireturn, 1) := by decide +kernel
theorem d_L_deck_0 : decode b_L_deck 0 = .ok (.aload_n 0, 1) := by decide +kernel
theorem d_L_deck_1 : decode b_L_deck 1 = .ok (.invokevirtual 111, 3) := by decide +kernel
theorem d_L_deck_4 : decode b_L_deck 4 = .ok (.istore_n 1, 1) := by decide +kernel
theorem d_L_deck_5 : decode b_L_deck 5 = .ok (.aload_n 0, 1) := by decide +kernel
theorem d_L_deck_6 : decode b_L_deck 6 = .ok (.getfield 73, 3) := by decide +kernel
theorem d_L_deck_9 : decode b_L_deck 9 = .ok (.iconst 0, 1) := by decide +kernel
theorem d_L_deck_10 : decode b_L_deck 10 = .ok (.putfield 108, 3) := by decide +kernel
theorem d_L_deck_13 : decode b_L_deck 13 = .ok (.iload_n 1, 1) := by decide +kernel
theorem d_L_deck_14 : decode b_L_deck 14 = .ok (.ireturn, 1) := by decide +kernel
theorem d_L_deckOnTape_0 : decode b_L_deckOnTape 0 = .ok (.aload_n 0, 1) := by decide +kernel
theorem d_L_deckOnTape_1 : decode b_L_deckOnTape 1 = .ok (.getfield 73, 3) := by decide +kernel
theorem d_L_deckOnTape_4 : decode b_L_deckOnTape 4 = .ok (.invokevirtual 115, 3) := by decide +kernel
theorem d_L_deckOnTape_7 : decode b_L_deckOnTape 7 = .ok (.istore_n 1, 1) := by decide +kernel
theorem d_L_deckOnTape_8 : decode b_L_deckOnTape 8 = .ok (.iload_n 1, 1) := by decide +kernel
theorem d_L_deckOnTape_9 : decode b_L_deckOnTape 9 = .ok (.ifCond .lt 8, 3) := by decide +kernel
theorem d_L_deckOnTape_12 : decode b_L_deckOnTape 12 = .ok (.bipush (-100), 2) := by decide +kernel
theorem d_L_deckOnTape_14 : decode b_L_deckOnTape 14 = .ok (.iload_n 1, 1) := by decide +kernel
theorem d_L_deckOnTape_15 : decode b_L_deckOnTape 15 = .ok (.isub, 1) := by decide +kernel
theorem d_L_deckOnTape_16 : decode b_L_deckOnTape 16 = .ok (.ireturn, 1) := by decide +kernel
theorem d_L_deckOnTape_17 : decode b_L_deckOnTape 17 = .ok (.aload_n 0, 1) := by decide +kernel
theorem d_L_deckOnTape_18 : decode b_L_deckOnTape 18 = .ok (.getfield 21, 3) := by decide +kernel
theorem d_L_deckOnTape_21 : decode b_L_deckOnTape 21 = .ok (.getfield 98, 3) := by decide +kernel
theorem d_L_deckOnTape_24 : decode b_L_deckOnTape 24 = .ok (.aload_n 0, 1) := by decide +kernel
theorem d_L_deckOnTape_25 : decode b_L_deckOnTape 25 = .ok (.getfield 73, 3) := by decide +kernel
theorem d_L_deckOnTape_28 : decode b_L_deckOnTape 28 = .ok (.getfield 118, 3) := by decide +kernel
theorem d_L_deckOnTape_31 : decode b_L_deckOnTape 31 = .ok (.iadd, 1) := by decide +kernel
theorem d_L_deckOnTape_32 : decode b_L_deckOnTape 32 = .ok (.bipush 24, 2) := by decide +kernel
theorem d_L_deckOnTape_34 : decode b_L_deckOnTape 34 = .ok (.if_icmp .le 6, 3) := by decide +kernel
theorem d_L_deckOnTape_37 : decode b_L_deckOnTape 37 = .ok (.bipush (-3), 2) := by decide +kernel
theorem d_L_deckOnTape_39 : decode b_L_deckOnTape 39 = .ok (.ireturn, 1) := by decide +kernel
theorem d_L_deckOnTape_40 : decode b_L_deckOnTape 40 = .ok (.iconst 0, 1) := by decide +kernel
theorem d_L_deckOnTape_41 : decode b_L_deckOnTape 41 = .ok (.istore_n 2, 1) := by decide +kernel
theorem d_L_deckOnTape_42 : decode b_L_deckOnTape 42 = .ok (.iload_n 2, 1) := by decide +kernel
theorem d_L_deckOnTape_43 : decode b_L_deckOnTape 43 = .ok (.aload_n 0, 1) := by decide +kernel
theorem d_L_deckOnTape_44 : decode b_L_deckOnTape 44 = .ok (.getfield 73, 3) := by decide +kernel
theorem d_L_deckOnTape_47 : decode b_L_deckOnTape 47 = .ok (.getfield 118, 3) := by decide +kernel
theorem d_L_deckOnTape_50 : decode b_L_deckOnTape 50 = .ok (.if_icmp .ge 61, 3) := by decide +kernel
theorem d_L_deckOnTape_53 : decode b_L_deckOnTape 53 = .ok (.aload_n 0, 1) := by decide +kernel
theorem d_L_deckOnTape_54 : decode b_L_deckOnTape 54 = .ok (.getfield 21, 3) := by decide +kernel
theorem d_L_deckOnTape_57 : decode b_L_deckOnTape 57 = .ok (.aload_n 0, 1) := by decide +kernel
theorem d_L_deckOnTape_58 : decode b_L_deckOnTape 58 = .ok (.getfield 73, 3) := by decide +kernel
theorem d_L_deckOnTape_61 : decode b_L_deckOnTape 61 = .ok (.getfield 121, 3) := by decide +kernel
theorem d_L_deckOnTape_64 : decode b_L_deckOnTape 64 = .ok (.iload_n 2, 1) := by decide +kernel
theorem d_L_deckOnTape_65 : decode b_L_deckOnTape 65 = .ok (.invokestatic 124, 3) := by decide +kernel
theorem d_L_deckOnTape_68 : decode b_L_deckOnTape 68 = .ok (.aload_n 0, 1) := by decide +kernel
theorem d_L_deckOnTape_69 : decode b_L_deckOnTape 69 = .ok (.getfield 73, 3) := by decide +kernel
theorem d_L_deckOnTape_72 : decode b_L_deckOnTape 72 = .ok (.getfield 128, 3) := by decide +kernel
theorem d_L_deckOnTape_75 : decode b_L_deckOnTape 75 = .ok (.iload_n 2, 1) := by decide +kernel
theorem d_L_deckOnTape_76 : decode b_L_deckOnTape 76 = .ok (.invokestatic 124, 3) := by decide +kernel
theorem d_L_deckOnTape_79 : decode b_L_deckOnTape 79 = .ok (.aload_n 0, 1) := by decide +kernel
theorem d_L_deckOnTape_80 : decode b_L_deckOnTape 80 = .ok (.getfield 73, 3) := by decide +kernel
theorem d_L_deckOnTape_83 : decode b_L_deckOnTape 83 = .ok (.getfield 131, 3) := by decide +kernel
theorem d_L_deckOnTape_86 : decode b_L_deckOnTape 86 = .ok (.iload_n 2, 1) := by decide +kernel
theorem d_L_deckOnTape_87 : decode b_L_deckOnTape 87 = .ok (.invokestatic 124, 3) := by decide +kernel
theorem d_L_deckOnTape_90 : decode b_L_deckOnTape 90 = .ok (.aload_n 0, 1) := by decide +kernel
theorem d_L_deckOnTape_91 : decode b_L_deckOnTape 91 = .ok (.getfield 73, 3) := by decide +kernel
theorem d_L_deckOnTape_94 : decode b_L_deckOnTape 94 = .ok (.getfield 134, 3) := by decide +kernel
theorem d_L_deckOnTape_97 : decode b_L_deckOnTape 97 = .ok (.iload_n 2, 1) := by decide +kernel
theorem d_L_deckOnTape_98 : decode b_L_deckOnTape 98 = .ok (.invokestatic 124, 3) := by decide +kernel
theorem d_L_deckOnTape_101 : decode b_L_deckOnTape 101 = .ok (.invokevirtual 101, 3) := by decide +kernel
theorem d_L_deckOnTape_104 : decode b_L_deckOnTape 104 = .ok (.pop, 1) := by decide +kernel
theorem d_L_deckOnTape_105 : decode b_L_deckOnTape 105 = .ok (.iinc 2 1, 3) := by decide +kernel
theorem d_L_deckOnTape_108 : decode b_L_deckOnTape 108 = .ok (.goto (-66), 3) := by decide +kernel
theorem d_L_deckOnTape_111 : decode b_L_deckOnTape 111 = .ok (.aload_n 0, 1) := by decide +kernel
theorem d_L_deckOnTape_112 : decode b_L_deckOnTape 112 = .ok (.getfield 73, 3) := by decide +kernel
theorem d_L_deckOnTape_115 : decode b_L_deckOnTape 115 = .ok (.getfield 118, 3) := by decide +kernel
theorem d_L_deckOnTape_118 : decode b_L_deckOnTape 118 = .ok (.ireturn, 1) := by decide +kernel
theorem d_L_of_0 : decode b_L_of 0 = .ok (.aload_n 0, 1) := by decide +kernel
theorem d_L_of_1 : decode b_L_of 1 = .ok (.getfield 21, 3) := by decide +kernel
theorem d_L_of_4 : decode b_L_of 4 = .ok (.iload_n 1, 1) := by decide +kernel
theorem d_L_of_5 : decode b_L_of 5 = .ok (.invokevirtual 137, 3) := by decide +kernel
theorem d_L_of_8 : decode b_L_of 8 = .ok (.ifCond .ne 5, 3) := by decide +kernel
theorem d_L_of_11 : decode b_L_of 11 = .ok (.iconst (-1), 1) := by decide +kernel
theorem d_L_of_12 : decode b_L_of 12 = .ok (.ireturn, 1) := by decide +kernel
theorem d_L_of_13 : decode b_L_of 13 = .ok (.iload_n 2, 1) := by decide +kernel
theorem d_L_of_14 : decode b_L_of 14 = .ok (.tableswitch 149 0 6 #[42, 54, 66, 78, 90, 105, 117], 42) := by decide +kernel
theorem d_L_of_56 : decode b_L_of 56 = .ok (.aload_n 0, 1) := by decide +kernel
theorem d_L_of_57 : decode b_L_of 57 = .ok (.getfield 10, 3) := by decide +kernel
theorem d_L_of_60 : decode b_L_of 60 = .ok (.getfield 140, 3) := by decide +kernel
theorem d_L_of_63 : decode b_L_of 63 = .ok (.iload_n 1, 1) := by decide +kernel
theorem d_L_of_64 : decode b_L_of 64 = .ok (.invokestatic 124, 3) := by decide +kernel
theorem d_L_of_67 : decode b_L_of 67 = .ok (.ireturn, 1) := by decide +kernel
theorem d_L_of_68 : decode b_L_of 68 = .ok (.aload_n 0, 1) := by decide +kernel
theorem d_L_of_69 : decode b_L_of 69 = .ok (.getfield 10, 3) := by decide +kernel
theorem d_L_of_72 : decode b_L_of 72 = .ok (.getfield 141, 3) := by decide +kernel
theorem d_L_of_75 : decode b_L_of 75 = .ok (.iload_n 1, 1) := by decide +kernel
theorem d_L_of_76 : decode b_L_of 76 = .ok (.invokestatic 124, 3) := by decide +kernel
theorem d_L_of_79 : decode b_L_of 79 = .ok (.ireturn, 1) := by decide +kernel
theorem d_L_of_80 : decode b_L_of 80 = .ok (.aload_n 0, 1) := by decide +kernel
theorem d_L_of_81 : decode b_L_of 81 = .ok (.getfield 10, 3) := by decide +kernel
theorem d_L_of_84 : decode b_L_of 84 = .ok (.getfield 142, 3) := by decide +kernel
theorem d_L_of_87 : decode b_L_of 87 = .ok (.iload_n 1, 1) := by decide +kernel
theorem d_L_of_88 : decode b_L_of 88 = .ok (.invokestatic 124, 3) := by decide +kernel
theorem d_L_of_91 : decode b_L_of 91 = .ok (.ireturn, 1) := by decide +kernel
theorem d_L_of_92 : decode b_L_of 92 = .ok (.aload_n 0, 1) := by decide +kernel
theorem d_L_of_93 : decode b_L_of 93 = .ok (.getfield 10, 3) := by decide +kernel
theorem d_L_of_96 : decode b_L_of 96 = .ok (.getfield 145, 3) := by decide +kernel
theorem d_L_of_99 : decode b_L_of 99 = .ok (.iload_n 1, 1) := by decide +kernel
theorem d_L_of_100 : decode b_L_of 100 = .ok (.invokestatic 124, 3) := by decide +kernel
theorem d_L_of_103 : decode b_L_of 103 = .ok (.ireturn, 1) := by decide +kernel
theorem d_L_of_104 : decode b_L_of 104 = .ok (.aload_n 0, 1) := by decide +kernel
theorem d_L_of_105 : decode b_L_of 105 = .ok (.getfield 10, 3) := by decide +kernel
theorem d_L_of_108 : decode b_L_of 108 = .ok (.getfield 148, 3) := by decide +kernel
theorem d_L_of_111 : decode b_L_of 111 = .ok (.iload_n 1, 1) := by decide +kernel
theorem d_L_of_112 : decode b_L_of 112 = .ok (.invokestatic 124, 3) := by decide +kernel
theorem d_L_of_115 : decode b_L_of 115 = .ok (.bipush 10, 2) := by decide +kernel
theorem d_L_of_117 : decode b_L_of 117 = .ok (.iadd, 1) := by decide +kernel
theorem d_L_of_118 : decode b_L_of 118 = .ok (.ireturn, 1) := by decide +kernel
theorem d_L_of_119 : decode b_L_of 119 = .ok (.aload_n 0, 1) := by decide +kernel
theorem d_L_of_120 : decode b_L_of 120 = .ok (.getfield 21, 3) := by decide +kernel
theorem d_L_of_123 : decode b_L_of 123 = .ok (.getfield 149, 3) := by decide +kernel
theorem d_L_of_126 : decode b_L_of 126 = .ok (.iload_n 1, 1) := by decide +kernel
theorem d_L_of_127 : decode b_L_of 127 = .ok (.invokestatic 124, 3) := by decide +kernel
theorem d_L_of_130 : decode b_L_of 130 = .ok (.ireturn, 1) := by decide +kernel
theorem d_L_of_131 : decode b_L_of 131 = .ok (.aload_n 0, 1) := by decide +kernel
theorem d_L_of_132 : decode b_L_of 132 = .ok (.getfield 21, 3) := by decide +kernel
theorem d_L_of_135 : decode b_L_of 135 = .ok (.getfield 149, 3) := by decide +kernel
theorem d_L_of_138 : decode b_L_of 138 = .ok (.iload_n 1, 1) := by decide +kernel
theorem d_L_of_139 : decode b_L_of 139 = .ok (.invokestatic 124, 3) := by decide +kernel
theorem d_L_of_142 : decode b_L_of 142 = .ok (.iconst 3, 1) := by decide +kernel
theorem d_L_of_143 : decode b_L_of 143 = .ok (.if_icmp .ne 17, 3) := by decide +kernel
theorem d_L_of_146 : decode b_L_of 146 = .ok (.aload_n 0, 1) := by decide +kernel
theorem d_L_of_147 : decode b_L_of 147 = .ok (.getfield 21, 3) := by decide +kernel
theorem d_L_of_150 : decode b_L_of 150 = .ok (.getfield 152, 3) := by decide +kernel
theorem d_L_of_153 : decode b_L_of 153 = .ok (.iload_n 1, 1) := by decide +kernel
theorem d_L_of_154 : decode b_L_of 154 = .ok (.invokestatic 124, 3) := by decide +kernel
theorem d_L_of_157 : decode b_L_of 157 = .ok (.goto 5, 3) := by decide +kernel
theorem d_L_of_160 : decode b_L_of 160 = .ok (.bipush (-2), 2) := by decide +kernel
theorem d_L_of_162 : decode b_L_of 162 = .ok (.ireturn, 1) := by decide +kernel
theorem d_L_of_163 : decode b_L_of 163 = .ok (.iconst (-1), 1) := by decide +kernel
theorem d_L_of_164 : decode b_L_of 164 = .ok (.ireturn, 1) := by decide +kernel
theorem d_L_deal_0 : decode b_L_deal 0 = .ok (.aload_n 0, 1) := by decide +kernel
theorem d_L_deal_1 : decode b_L_deal 1 = .ok (.getfield 21, 3) := by decide +kernel
theorem d_L_deal_4 : decode b_L_deal 4 = .ok (.iload_n 1, 1) := by decide +kernel
theorem d_L_deal_5 : decode b_L_deal 5 = .ok (.invokevirtual 137, 3) := by decide +kernel
theorem d_L_deal_8 : decode b_L_deal 8 = .ok (.ifCond .ne 5, 3) := by decide +kernel
theorem d_L_deal_11 : decode b_L_deal 11 = .ok (.iconst (-1), 1) := by decide +kernel
theorem d_L_deal_12 : decode b_L_deal 12 = .ok (.ireturn, 1) := by decide +kernel
theorem d_L_deal_13 : decode b_L_deal 13 = .ok (.aload_n 0, 1) := by decide +kernel
theorem d_L_deal_14 : decode b_L_deal 14 = .ok (.getfield 21, 3) := by decide +kernel
theorem d_L_deal_17 : decode b_L_deal 17 = .ok (.getfield 149, 3) := by decide +kernel
theorem d_L_deal_20 : decode b_L_deal 20 = .ok (.iload_n 1, 1) := by decide +kernel
theorem d_L_deal_21 : decode b_L_deal 21 = .ok (.invokestatic 124, 3) := by decide +kernel
theorem d_L_deal_24 : decode b_L_deal 24 = .ok (.ifCond .eq 6, 3) := by decide +kernel
theorem d_L_deal_27 : decode b_L_deal 27 = .ok (.bipush (-5), 2) := by decide +kernel
theorem d_L_deal_29 : decode b_L_deal 29 = .ok (.ireturn, 1) := by decide +kernel
theorem d_L_deal_30 : decode b_L_deal 30 = .ok (.aload_n 0, 1) := by decide +kernel
theorem d_L_deal_31 : decode b_L_deal 31 = .ok (.getfield 21, 3) := by decide +kernel
theorem d_L_deal_34 : decode b_L_deal 34 = .ok (.iload_n 1, 1) := by decide +kernel
theorem d_L_deal_35 : decode b_L_deal 35 = .ok (.iconst 1, 1) := by decide +kernel
theorem d_L_deal_36 : decode b_L_deal 36 = .ok (.invokevirtual 155, 3) := by decide +kernel
theorem d_L_deal_39 : decode b_L_deal 39 = .ok (.iconst 1, 1) := by decide +kernel
theorem d_L_deal_40 : decode b_L_deal 40 = .ok (.ireturn, 1) := by decide +kernel
theorem d_L_base_0 : decode b_L_base 0 = .ok (.iload_n 1, 1) := by decide +kernel
theorem d_L_base_1 : decode b_L_base 1 = .ok (.ifCond .lt 20, 3) := by decide +kernel
theorem d_L_base_4 : decode b_L_base 4 = .ok (.iload_n 1, 1) := by decide +kernel
theorem d_L_base_5 : decode b_L_base 5 = .ok (.iconst 4, 1) := by decide +kernel
theorem d_L_base_6 : decode b_L_base 6 = .ok (.if_icmp .ge 15, 3) := by decide +kernel
theorem d_L_base_9 : decode b_L_base 9 = .ok (.iload_n 2, 1) := by decide +kernel
theorem d_L_base_10 : decode b_L_base 10 = .ok (.bipush (-99), 2) := by decide +kernel
theorem d_L_base_12 : decode b_L_base 12 = .ok (.if_icmp .lt 9, 3) := by decide +kernel
theorem d_L_base_15 : decode b_L_base 15 = .ok (.iload_n 2, 1) := by decide +kernel
theorem d_L_base_16 : decode b_L_base 16 = .ok (.bipush 99, 2) := by decide +kernel
theorem d_L_base_18 : decode b_L_base 18 = .ok (.if_icmp .le 6, 3) := by decide +kernel
theorem d_L_base_21 : decode b_L_base 21 = .ok (.ldc 159, 2) := by decide +kernel
theorem d_L_base_23 : decode b_L_base 23 = .ok (.ireturn, 1) := by decide +kernel
theorem d_L_base_24 : decode b_L_base 24 = .ok (.aload_n 0, 1) := by decide +kernel
theorem d_L_base_25 : decode b_L_base 25 = .ok (.getfield 21, 3) := by decide +kernel
theorem d_L_base_28 : decode b_L_base 28 = .ok (.getfield 160, 3) := by decide +kernel
theorem d_L_base_31 : decode b_L_base 31 = .ok (.iload_n 1, 1) := by decide +kernel
theorem d_L_base_32 : decode b_L_base 32 = .ok (.invokestatic 124, 3) := by decide +kernel
theorem d_L_base_35 : decode b_L_base 35 = .ok (.istore_n 3, 1) := by decide +kernel
theorem d_L_base_36 : decode b_L_base 36 = .ok (.aload_n 0, 1) := by decide +kernel
theorem d_L_base_37 : decode b_L_base 37 = .ok (.getfield 21, 3) := by decide +kernel
theorem d_L_base_40 : decode b_L_base 40 = .ok (.getfield 160, 3) := by decide +kernel
theorem d_L_base_43 : decode b_L_base 43 = .ok (.iload_n 1, 1) := by decide +kernel
theorem d_L_base_44 : decode b_L_base 44 = .ok (.iload_n 2, 1) := by decide +kernel
theorem d_L_base_45 : decode b_L_base 45 = .ok (.invokestatic 163, 3) := by decide +kernel
theorem d_L_base_48 : decode b_L_base 48 = .ok (.iload_n 3, 1) := by decide +kernel
theorem d_L_base_49 : decode b_L_base 49 = .ok (.ireturn, 1) := by decide +kernel
theorem d_L_mend_0 : decode b_L_mend 0 = .ok (.iload_n 1, 1) := by decide +kernel
theorem d_L_mend_1 : decode b_L_mend 1 = .ok (.invokestatic 91, 3) := by decide +kernel
theorem d_L_mend_4 : decode b_L_mend 4 = .ok (.ifCond .eq 15, 3) := by decide +kernel
theorem d_L_mend_7 : decode b_L_mend 7 = .ok (.iload_n 2, 1) := by decide +kernel
theorem d_L_mend_8 : decode b_L_mend 8 = .ok (.bipush (-99), 2) := by decide +kernel
theorem d_L_mend_10 : decode b_L_mend 10 = .ok (.if_icmp .lt 9, 3) := by decide +kernel
theorem d_L_mend_13 : decode b_L_mend 13 = .ok (.iload_n 2, 1) := by decide +kernel
theorem d_L_mend_14 : decode b_L_mend 14 = .ok (.bipush 99, 2) := by decide +kernel
theorem d_L_mend_16 : decode b_L_mend 16 = .ok (.if_icmp .le 6, 3) := by decide +kernel
theorem d_L_mend_19 : decode b_L_mend 19 = .ok (.ldc 159, 2) := by decide +kernel
theorem d_L_mend_21 : decode b_L_mend 21 = .ok (.ireturn, 1) := by decide +kernel
theorem d_L_mend_22 : decode b_L_mend 22 = .ok (.aload_n 0, 1) := by decide +kernel
theorem d_L_mend_23 : decode b_L_mend 23 = .ok (.getfield 21, 3) := by decide +kernel
theorem d_L_mend_26 : decode b_L_mend 26 = .ok (.getfield 167, 3) := by decide +kernel
theorem d_L_mend_29 : decode b_L_mend 29 = .ok (.iload_n 1, 1) := by decide +kernel
theorem d_L_mend_30 : decode b_L_mend 30 = .ok (.invokestatic 124, 3) := by decide +kernel
theorem d_L_mend_33 : decode b_L_mend 33 = .ok (.istore_n 3, 1) := by decide +kernel
theorem d_L_mend_34 : decode b_L_mend 34 = .ok (.aload_n 0, 1) := by decide +kernel
theorem d_L_mend_35 : decode b_L_mend 35 = .ok (.getfield 21, 3) := by decide +kernel
theorem d_L_mend_38 : decode b_L_mend 38 = .ok (.getfield 167, 3) := by decide +kernel
theorem d_L_mend_41 : decode b_L_mend 41 = .ok (.iload_n 1, 1) := by decide +kernel
theorem d_L_mend_42 : decode b_L_mend 42 = .ok (.iload_n 2, 1) := by decide +kernel
theorem d_L_mend_43 : decode b_L_mend 43 = .ok (.invokestatic 163, 3) := by decide +kernel
theorem d_L_mend_46 : decode b_L_mend 46 = .ok (.iload_n 3, 1) := by decide +kernel
theorem d_L_mend_47 : decode b_L_mend 47 = .ok (.ireturn, 1) := by decide +kernel
theorem d_L_player_0 : decode b_L_player 0 = .ok (.iload_n 1, 1) := by decide +kernel
theorem d_L_player_1 : decode b_L_player 1 = .ok (.invokestatic 91, 3) := by decide +kernel
theorem d_L_player_4 : decode b_L_player 4 = .ok (.ifCond .ne 6, 3) := by decide +kernel
theorem d_L_player_7 : decode b_L_player 7 = .ok (.ldc 159, 2) := by decide +kernel
theorem d_L_player_9 : decode b_L_player 9 = .ok (.ireturn, 1) := by decide +kernel
theorem d_L_player_10 : decode b_L_player 10 = .ok (.iload_n 2, 1) := by decide +kernel
theorem d_L_player_11 : decode b_L_player 11 = .ok (.tableswitch 85 0 4 #[33, 45, 55, 65, 75], 33) := by decide +kernel
theorem d_L_player_44 : decode b_L_player 44 = .ok (.aload_n 0, 1) := by decide +kernel
theorem d_L_player_45 : decode b_L_player 45 = .ok (.getfield 21, 3) := by decide +kernel
theorem d_L_player_48 : decode b_L_player 48 = .ok (.getfield 167, 3) := by decide +kernel
theorem d_L_player_51 : decode b_L_player 51 = .ok (.iload_n 1, 1) := by decide +kernel
theorem d_L_player_52 : decode b_L_player 52 = .ok (.invokestatic 124, 3) := by decide +kernel
theorem d_L_player_55 : decode b_L_player 55 = .ok (.ireturn, 1) := by decide +kernel
theorem d_L_player_56 : decode b_L_player 56 = .ok (.aload_n 0, 1) := by decide +kernel
theorem d_L_player_57 : decode b_L_player 57 = .ok (.getfield 21, 3) := by decide +kernel
theorem d_L_player_60 : decode b_L_player 60 = .ok (.iload_n 1, 1) := by decide +kernel
theorem d_L_player_61 : decode b_L_player 61 = .ok (.iconst 0, 1) := by decide +kernel
theorem d_L_player_62 : decode b_L_player 62 = .ok (.invokevirtual 170, 3) := by decide +kernel
theorem d_L_player_65 : decode b_L_player 65 = .ok (.ireturn, 1) := by decide +kernel
theorem d_L_player_66 : decode b_L_player 66 = .ok (.aload_n 0, 1) := by decide +kernel
theorem d_L_player_67 : decode b_L_player 67 = .ok (.getfield 21, 3) := by decide +kernel
theorem d_L_player_70 : decode b_L_player 70 = .ok (.iload_n 1, 1) := by decide +kernel
theorem d_L_player_71 : decode b_L_player 71 = .ok (.iconst 1, 1) := by decide +kernel
theorem d_L_player_72 : decode b_L_player 72 = .ok (.invokevirtual 170, 3) := by decide +kernel
theorem d_L_player_75 : decode b_L_player 75 = .ok (.ireturn, 1) := by decide +kernel
theorem d_L_player_76 : decode b_L_player 76 = .ok (.aload_n 0, 1) := by decide +kernel
theorem d_L_player_77 : decode b_L_player 77 = .ok (.getfield 21, 3) := by decide +kernel
theorem d_L_player_80 : decode b_L_player 80 = .ok (.iload_n 1, 1) := by decide +kernel
theorem d_L_player_81 : decode b_L_player 81 = .ok (.iconst 3, 1) := by decide +kernel
theorem d_L_player_82 : decode b_L_player 82 = .ok (.invokevirtual 170, 3) := by decide +kernel
theorem d_L_player_85 : decode b_L_player 85 = .ok (.ireturn, 1) := by decide +kernel
theorem d_L_player_86 : decode b_L_player 86 = .ok (.aload_n 0, 1) := by decide +kernel
theorem d_L_player_87 : decode b_L_player 87 = .ok (.getfield 21, 3) := by decide +kernel
theorem d_L_player_90 : decode b_L_player 90 = .ok (.iload_n 1, 1) := by decide +kernel
theorem d_L_player_91 : decode b_L_player 91 = .ok (.iconst 4, 1) := by decide +kernel
theorem d_L_player_92 : decode b_L_player 92 = .ok (.invokevirtual 170, 3) := by decide +kernel
theorem d_L_player_95 : decode b_L_player 95 = .ok (.ireturn, 1) := by decide +kernel
theorem d_L_player_96 : decode b_L_player 96 = .ok (.ldc 159, 2) := by decide +kernel
theorem d_L_player_98 : decode b_L_player 98 = .ok (.ireturn, 1) := by decide +kernel
theorem d_L_value_0 : decode b_L_value 0 = .ok (.iload_n 1, 1) := by decide +kernel
theorem d_L_value_1 : decode b_L_value 1 = .ok (.ifCond .lt 8, 3) := by decide +kernel
theorem d_L_value_4 : decode b_L_value 4 = .ok (.iload_n 1, 1) := by decide +kernel
theorem d_L_value_5 : decode b_L_value 5 = .ok (.iconst 4, 1) := by decide +kernel
theorem d_L_value_6 : decode b_L_value 6 = .ok (.if_icmp .lt 6, 3) := by decide +kernel
theorem d_L_value_9 : decode b_L_value 9 = .ok (.ldc 159, 2) := by decide +kernel
theorem d_L_value_11 : decode b_L_value 11 = .ok (.ireturn, 1) := by decide +kernel
theorem d_L_value_12 : decode b_L_value 12 = .ok (.aload_n 0, 1) := by decide +kernel
theorem d_L_value_13 : decode b_L_value 13 = .ok (.getfield 49, 3) := by decide +kernel
theorem d_L_value_16 : decode b_L_value 16 = .ok (.aload_n 0, 1) := by decide +kernel
theorem d_L_value_17 : decode b_L_value 17 = .ok (.getfield 21, 3) := by decide +kernel
theorem d_L_value_20 : decode b_L_value 20 = .ok (.invokevirtual 174, 3) := by decide +kernel
theorem d_L_value_23 : decode b_L_value 23 = .ok (.aload_n 0, 1) := by decide +kernel
theorem d_L_value_24 : decode b_L_value 24 = .ok (.getfield 49, 3) := by decide +kernel
theorem d_L_value_27 : decode b_L_value 27 = .ok (.getfield 178, 3) := by decide +kernel
theorem d_L_value_30 : decode b_L_value 30 = .ok (.iload_n 1, 1) := by decide +kernel
theorem d_L_value_31 : decode b_L_value 31 = .ok (.invokestatic 124, 3) := by decide +kernel
theorem d_L_value_34 : decode b_L_value 34 = .ok (.ireturn, 1) := by decide +kernel
theorem d_L_layer_0 : decode b_L_layer 0 = .ok (.iload_n 1, 1) := by decide +kernel
theorem d_L_layer_1 : decode b_L_layer 1 = .ok (.ifCond .ge 5, 3) := by decide +kernel
theorem d_L_layer_4 : decode b_L_layer 4 = .ok (.iconst (-1), 1) := by decide +kernel
theorem d_L_layer_5 : decode b_L_layer 5 = .ok (.ireturn, 1) := by decide +kernel
theorem d_L_layer_6 : decode b_L_layer 6 = .ok (.aload_n 0, 1) := by decide +kernel
theorem d_L_layer_7 : decode b_L_layer 7 = .ok (.getfield 49, 3) := by decide +kernel
theorem d_L_layer_10 : decode b_L_layer 10 = .ok (.aload_n 0, 1) := by decide +kernel
theorem d_L_layer_11 : decode b_L_layer 11 = .ok (.getfield 21, 3) := by decide +kernel
theorem d_L_layer_14 : decode b_L_layer 14 = .ok (.invokevirtual 174, 3) := by decide +kernel
theorem d_L_layer_17 : decode b_L_layer 17 = .ok (.iload_n 1, 1) := by decide +kernel
theorem d_L_layer_18 : decode b_L_layer 18 = .ok (.aload_n 0, 1) := by decide +kernel
theorem d_L_layer_19 : decode b_L_layer 19 = .ok (.getfield 49, 3) := by decide +kernel
theorem d_L_layer_22 : decode b_L_layer 22 = .ok (.getfield 181, 3) := by decide +kernel
theorem d_L_layer_25 : decode b_L_layer 25 = .ok (.if_icmp .ge 17, 3) := by decide +kernel
theorem d_L_layer_28 : decode b_L_layer 28 = .ok (.aload_n 0, 1) := by decide +kernel
theorem d_L_layer_29 : decode b_L_layer 29 = .ok (.getfield 49, 3) := by decide +kernel
theorem d_L_layer_32 : decode b_L_layer 32 = .ok (.getfield 184, 3) := by decide +kernel
theorem d_L_layer_35 : decode b_L_layer 35 = .ok (.iload_n 1, 1) := by decide +kernel
theorem d_L_layer_36 : decode b_L_layer 36 = .ok (.invokestatic 124, 3) := by decide +kernel
theorem d_L_layer_39 : decode b_L_layer 39 = .ok (.goto 5, 3) := by decide +kernel
theorem d_L_layer_42 : decode b_L_layer 42 = .ok (.bipush (-2), 2) := by decide +kernel
theorem d_L_layer_44 : decode b_L_layer 44 = .ok (.ireturn, 1) := by decide +kernel
theorem d_L_depends_0 : decode b_L_depends 0 = .ok (.iload_n 1, 1) := by decide +kernel
theorem d_L_depends_1 : decode b_L_depends 1 = .ok (.iload_n 2, 1) := by decide +kernel
theorem d_L_depends_2 : decode b_L_depends 2 = .ok (.if_icmp .eq 19, 3) := by decide +kernel
theorem d_L_depends_5 : decode b_L_depends 5 = .ok (.aload_n 0, 1) := by decide +kernel
theorem d_L_depends_6 : decode b_L_depends 6 = .ok (.iload_n 1, 1) := by decide +kernel
theorem d_L_depends_7 : decode b_L_depends 7 = .ok (.invokevirtual 187, 3) := by decide +kernel
theorem d_L_depends_10 : decode b_L_depends 10 = .ok (.ifCond .eq 11, 3) := by decide +kernel
theorem d_L_depends_13 : decode b_L_depends 13 = .ok (.aload_n 0, 1) := by decide +kernel
theorem d_L_depends_14 : decode b_L_depends 14 = .ok (.iload_n 2, 1) := by decide +kernel
theorem d_L_depends_15 : decode b_L_depends 15 = .ok (.invokevirtual 187, 3) := by decide +kernel
theorem d_L_depends_18 : decode b_L_depends 18 = .ok (.ifCond .ne 5, 3) := by decide +kernel
theorem d_L_depends_21 : decode b_L_depends 21 = .ok (.iconst (-1), 1) := by decide +kernel
theorem d_L_depends_22 : decode b_L_depends 22 = .ok (.ireturn, 1) := by decide +kernel
theorem d_L_depends_23 : decode b_L_depends 23 = .ok (.aload_n 0, 1) := by decide +kernel
theorem d_L_depends_24 : decode b_L_depends 24 = .ok (.getfield 10, 3) := by decide +kernel
theorem d_L_depends_27 : decode b_L_depends 27 = .ok (.getfield 140, 3) := by decide +kernel
theorem d_L_depends_30 : decode b_L_depends 30 = .ok (.iload_n 1, 1) := by decide +kernel
theorem d_L_depends_31 : decode b_L_depends 31 = .ok (.invokestatic 124, 3) := by decide +kernel
theorem d_L_depends_34 : decode b_L_depends 34 = .ok (.invokestatic 190, 3) := by decide +kernel
theorem d_L_depends_37 : decode b_L_depends 37 = .ok (.ifCond .eq 32, 3) := by decide +kernel
theorem d_L_depends_40 : decode b_L_depends 40 = .ok (.aload_n 0, 1) := by decide +kernel
theorem d_L_depends_41 : decode b_L_depends 41 = .ok (.getfield 10, 3) := by decide +kernel
theorem d_L_depends_44 : decode b_L_depends 44 = .ok (.getfield 145, 3) := by decide +kernel
theorem d_L_depends_47 : decode b_L_depends 47 = .ok (.iload_n 1, 1) := by decide +kernel
theorem d_L_depends_48 : decode b_L_depends 48 = .ok (.invokestatic 124, 3) := by decide +kernel
theorem d_L_depends_51 : decode b_L_depends 51 = .ok (.aload_n 0, 1) := by decide +kernel
theorem d_L_depends_52 : decode b_L_depends 52 = .ok (.getfield 10, 3) := by decide +kernel
theorem d_L_depends_55 : decode b_L_depends 55 = .ok (.getfield 142, 3) := by decide +kernel
theorem d_L_depends_58 : decode b_L_depends 58 = .ok (.iload_n 2, 1) := by decide +kernel
theorem d_L_depends_59 : decode b_L_depends 59 = .ok (.invokestatic 124, 3) := by decide +kernel
theorem d_L_depends_62 : decode b_L_depends 62 = .ok (.if_icmp .ne 7, 3) := by decide +kernel
theorem d_L_depends_65 : decode b_L_depends 65 = .ok (.iconst 1, 1) := by decide +kernel
theorem d_L_depends_66 : decode b_L_depends 66 = .ok (.goto 4, 3) := by decide +kernel
theorem d_L_depends_69 : decode b_L_depends 69 = .ok (.iconst 0, 1) := by decide +kernel
theorem d_L_depends_70 : decode b_L_depends 70 = .ok (.ireturn, 1) := by decide +kernel
theorem d_L_isLayerOnTable_0 : decode b_L_isLayerOnTable 0 = .ok (.aload_n 0, 1) := by decide +kernel
theorem d_L_isLayerOnTable_1 : decode b_L_isLayerOnTable 1 = .ok (.getfield 21, 3) := by decide +kernel
theorem d_L_isLayerOnTable_4 : decode b_L_isLayerOnTable 4 = .ok (.iload_n 1, 1) := by decide +kernel
theorem d_L_isLayerOnTable_5 : decode b_L_isLayerOnTable 5 = .ok (.invokevirtual 137, 3) := by decide +kernel
theorem d_L_isLayerOnTable_8 : decode b_L_isLayerOnTable 8 = .ok (.ifCond .eq 40, 3) := by decide +kernel
theorem d_L_isLayerOnTable_11 : decode b_L_isLayerOnTable 11 = .ok (.aload_n 0, 1) := by decide +kernel
theorem d_L_isLayerOnTable_12 : decode b_L_isLayerOnTable 12 = .ok (.getfield 21, 3) := by decide +kernel
theorem d_L_isLayerOnTable_15 : decode b_L_isLayerOnTable 15 = .ok (.getfield 149, 3) := by decide +kernel
theorem d_L_isLayerOnTable_18 : decode b_L_isLayerOnTable 18 = .ok (.iload_n 1, 1) := by decide +kernel
theorem d_L_isLayerOnTable_19 : decode b_L_isLayerOnTable 19 = .ok (.invokestatic 124, 3) := by decide +kernel
theorem d_L_isLayerOnTable_22 : decode b_L_isLayerOnTable 22 = .ok (.iconst 3, 1) := by decide +kernel
theorem d_L_isLayerOnTable_23 : decode b_L_isLayerOnTable 23 = .ok (.if_icmp .ne 25, 3) := by decide +kernel
theorem d_L_isLayerOnTable_26 : decode b_L_isLayerOnTable 26 = .ok (.aload_n 0, 1) := by decide +kernel
theorem d_L_isLayerOnTable_27 : decode b_L_isLayerOnTable 27 = .ok (.getfield 10, 3) := by decide +kernel
theorem d_L_isLayerOnTable_30 : decode b_L_isLayerOnTable 30 = .ok (.getfield 140, 3) := by decide +kernel
theorem d_L_isLayerOnTable_33 : decode b_L_isLayerOnTable 33 = .ok (.iload_n 1, 1) := by decide +kernel
theorem d_L_isLayerOnTable_34 : decode b_L_isLayerOnTable 34 = .ok (.invokestatic 124, 3) := by decide +kernel
theorem d_L_isLayerOnTable_37 : decode b_L_isLayerOnTable 37 = .ok (.invokestatic 193, 3) := by decide +kernel
theorem d_L_isLayerOnTable_40 : decode b_L_isLayerOnTable 40 = .ok (.iconst 1, 1) := by decide +kernel
theorem d_L_isLayerOnTable_41 : decode b_L_isLayerOnTable 41 = .ok (.if_icmp .ne 7, 3) := by decide +kernel
theorem d_L_isLayerOnTable_44 : decode b_L_isLayerOnTable 44 = .ok (.iconst 1, 1) := by decide +kernel
theorem d_L_isLayerOnTable_45 : decode b_L_isLayerOnTable 45 = .ok (.goto 4, 3) := by decide +kernel
theorem d_L_isLayerOnTable_48 : decode b_L_isLayerOnTable 48 = .ok (.iconst 0, 1) := by decide +kernel
theorem d_L_isLayerOnTable_49 : decode b_L_isLayerOnTable 49 = .ok (.ireturn, 1) := by decide +kernel
theorem d_L_used_0 : decode b_L_used 0 = .ok (.iload_n 1, 1) := by decide +kernel
theorem d_L_used_1 : decode b_L_used 1 = .ok (.ifCond .lt 29, 3) := by decide +kernel
theorem d_L_used_4 : decode b_L_used 4 = .ok (.iload_n 1, 1) := by decide +kernel
theorem d_L_used_5 : decode b_L_used 5 = .ok (.sipush 1000, 3) := by decide +kernel
theorem d_L_used_8 : decode b_L_used 8 = .ok (.idiv, 1) := by decide +kernel
theorem d_L_used_9 : decode b_L_used 9 = .ok (.iconst 3, 1) := by decide +kernel
theorem d_L_used_10 : decode b_L_used 10 = .ok (.if_icmp .ge 20, 3) := by decide +kernel
theorem d_L_used_13 : decode b_L_used 13 = .ok (.iload_n 1, 1) := by decide +kernel
theorem d_L_used_14 : decode b_L_used 14 = .ok (.sipush 1000, 3) := by decide +kernel
theorem d_L_used_17 : decode b_L_used 17 = .ok (.irem, 1) := by decide +kernel
theorem d_L_used_18 : decode b_L_used 18 = .ok (.sipush 200, 3) := by decide +kernel
theorem d_L_used_21 : decode b_L_used 21 = .ok (.if_icmp .ge 9, 3) := by decide +kernel
theorem d_L_used_24 : decode b_L_used 24 = .ok (.iload_n 2, 1) := by decide +kernel
theorem d_L_used_25 : decode b_L_used 25 = .ok (.bipush (-2), 2) := by decide +kernel
theorem d_L_used_27 : decode b_L_used 27 = .ok (.if_icmp .ge 5, 3) := by decide +kernel
theorem d_L_used_30 : decode b_L_used 30 = .ok (.iconst (-1), 1) := by decide +kernel
theorem d_L_used_31 : decode b_L_used 31 = .ok (.ireturn, 1) := by decide +kernel
theorem d_L_used_32 : decode b_L_used 32 = .ok (.aload_n 0, 1) := by decide +kernel
theorem d_L_used_33 : decode b_L_used 33 = .ok (.getfield 56, 3) := by decide +kernel
theorem d_L_used_36 : decode b_L_used 36 = .ok (.iload_n 1, 1) := by decide +kernel
theorem d_L_used_37 : decode b_L_used 37 = .ok (.invokevirtual 197, 3) := by decide +kernel
theorem d_L_used_40 : decode b_L_used 40 = .ok (.aload_n 0, 1) := by decide +kernel
theorem d_L_used_41 : decode b_L_used 41 = .ok (.getfield 56, 3) := by decide +kernel
theorem d_L_used_44 : decode b_L_used 44 = .ok (.aload_n 0, 1) := by decide +kernel
theorem d_L_used_45 : decode b_L_used 45 = .ok (.getfield 21, 3) := by decide +kernel
theorem d_L_used_48 : decode b_L_used 48 = .ok (.invokevirtual 201, 3) := by decide +kernel
theorem d_L_used_51 : decode b_L_used 51 = .ok (.iload_n 2, 1) := by decide +kernel
theorem d_L_used_52 : decode b_L_used 52 = .ok (.iconst (-1), 1) := by decide +kernel
theorem d_L_used_53 : decode b_L_used 53 = .ok (.if_icmp .ne 11, 3) := by decide +kernel
theorem d_L_used_56 : decode b_L_used 56 = .ok (.aload_n 0, 1) := by decide +kernel
theorem d_L_used_57 : decode b_L_used 57 = .ok (.getfield 56, 3) := by decide +kernel
theorem d_L_used_60 : decode b_L_used 60 = .ok (.invokevirtual 204, 3) := by decide +kernel
theorem d_L_used_63 : decode b_L_used 63 = .ok (.ireturn, 1) := by decide +kernel
theorem d_L_used_64 : decode b_L_used 64 = .ok (.iload_n 2, 1) := by decide +kernel
theorem d_L_used_65 : decode b_L_used 65 = .ok (.bipush (-2), 2) := by decide +kernel
theorem d_L_used_67 : decode b_L_used 67 = .ok (.if_icmp .ne 11, 3) := by decide +kernel
theorem d_L_used_70 : decode b_L_used 70 = .ok (.aload_n 0, 1) := by decide +kernel
theorem d_L_used_71 : decode b_L_used 71 = .ok (.getfield 56, 3) := by decide +kernel
theorem d_L_used_74 : decode b_L_used 74 = .ok (.getfield 207, 3) := by decide +kernel
theorem d_L_used_77 : decode b_L_used 77 = .ok (.ireturn, 1) := by decide +kernel
theorem d_L_used_78 : decode b_L_used 78 = .ok (.iload_n 2, 1) := by decide +kernel
theorem d_L_used_79 : decode b_L_used 79 = .ok (.aload_n 0, 1) := by decide +kernel
theorem d_L_used_80 : decode b_L_used 80 = .ok (.getfield 56, 3) := by decide +kernel
theorem d_L_used_83 : decode b_L_used 83 = .ok (.getfield 207, 3) := by decide +kernel
theorem d_L_used_86 : decode b_L_used 86 = .ok (.if_icmp .ge 17, 3) := by decide +kernel
theorem d_L_used_89 : decode b_L_used 89 = .ok (.aload_n 0, 1) := by decide +kernel
theorem d_L_used_90 : decode b_L_used 90 = .ok (.getfield 56, 3) := by decide +kernel
theorem d_L_used_93 : decode b_L_used 93 = .ok (.getfield 208, 3) := by decide +kernel
theorem d_L_used_96 : decode b_L_used 96 = .ok (.iload_n 2, 1) := by decide +kernel
theorem d_L_used_97 : decode b_L_used 97 = .ok (.invokestatic 124, 3) := by decide +kernel
theorem d_L_used_100 : decode b_L_used 100 = .ok (.goto 5, 3) := by decide +kernel
theorem d_L_used_103 : decode b_L_used 103 = .ok (.bipush (-2), 2) := by decide +kernel
theorem d_L_used_105 : decode b_L_used 105 = .ok (.ireturn, 1) := by decide +kernel
theorem d_L_play_0 : decode b_L_play 0 = .ok (.aload_n 0, 1) := by decide +kernel
theorem d_L_play_1 : decode b_L_play 1 = .ok (.getfield 21, 3) := by decide +kernel
theorem d_L_play_4 : decode b_L_play 4 = .ok (.iload_n 1, 1) := by decide +kernel
theorem d_L_play_5 : decode b_L_play 5 = .ok (.invokevirtual 137, 3) := by decide +kernel
theorem d_L_play_8 : decode b_L_play 8 = .ok (.ifCond .ne 5, 3) := by decide +kernel
theorem d_L_play_11 : decode b_L_play 11 = .ok (.iconst (-1), 1) := by decide +kernel
theorem d_L_play_12 : decode b_L_play 12 = .ok (.ireturn, 1) := by decide +kernel
theorem d_L_play_13 : decode b_L_play 13 = .ok (.aload_n 0, 1) := by decide +kernel
theorem d_L_play_14 : decode b_L_play 14 = .ok (.getfield 21, 3) := by decide +kernel
theorem d_L_play_17 : decode b_L_play 17 = .ok (.getfield 149, 3) := by decide +kernel
theorem d_L_play_20 : decode b_L_play 20 = .ok (.iload_n 1, 1) := by decide +kernel
theorem d_L_play_21 : decode b_L_play 21 = .ok (.invokestatic 124, 3) := by decide +kernel
theorem d_L_play_24 : decode b_L_play 24 = .ok (.iconst 1, 1) := by decide +kernel
theorem d_L_play_25 : decode b_L_play 25 = .ok (.if_icmp .eq 6, 3) := by decide +kernel
theorem d_L_play_28 : decode b_L_play 28 = .ok (.bipush (-5), 2) := by decide +kernel
theorem d_L_play_30 : decode b_L_play 30 = .ok (.ireturn, 1) := by decide +kernel
theorem d_L_play_31 : decode b_L_play 31 = .ok (.aload_n 0, 1) := by decide +kernel
theorem d_L_play_32 : decode b_L_play 32 = .ok (.getfield 21, 3) := by decide +kernel
theorem d_L_play_35 : decode b_L_play 35 = .ok (.getfield 211, 3) := by decide +kernel
theorem d_L_play_38 : decode b_L_play 38 = .ok (.bipush 64, 2) := by decide +kernel
theorem d_L_play_40 : decode b_L_play 40 = .ok (.if_icmp .lt 6, 3) := by decide +kernel
theorem d_L_play_43 : decode b_L_play 43 = .ok (.bipush (-3), 2) := by decide +kernel
theorem d_L_play_45 : decode b_L_play 45 = .ok (.ireturn, 1) := by decide +kernel
theorem d_L_play_46 : decode b_L_play 46 = .ok (.aload_n 0, 1) := by decide +kernel
theorem d_L_play_47 : decode b_L_play 47 = .ok (.getfield 21, 3) := by decide +kernel
theorem d_L_play_50 : decode b_L_play 50 = .ok (.iload_n 1, 1) := by decide +kernel
theorem d_L_play_51 : decode b_L_play 51 = .ok (.invokevirtual 214, 3) := by decide +kernel
theorem d_L_play_54 : decode b_L_play 54 = .ok (.aload_n 0, 1) := by decide +kernel
theorem d_L_play_55 : decode b_L_play 55 = .ok (.getfield 21, 3) := by decide +kernel
theorem d_L_play_58 : decode b_L_play 58 = .ok (.getfield 211, 3) := by decide +kernel
theorem d_L_play_61 : decode b_L_play 61 = .ok (.ireturn, 1) := by decide +kernel
theorem d_L_pile_0 : decode b_L_pile 0 = .ok (.iload_n 1, 1) := by decide +kernel
theorem d_L_pile_1 : decode b_L_pile 1 = .ok (.ifCond .ge 5, 3) := by decide +kernel
theorem d_L_pile_4 : decode b_L_pile 4 = .ok (.iconst (-1), 1) := by decide +kernel
theorem d_L_pile_5 : decode b_L_pile 5 = .ok (.ireturn, 1) := by decide +kernel
theorem d_L_pile_6 : decode b_L_pile 6 = .ok (.iload_n 1, 1) := by decide +kernel
theorem d_L_pile_7 : decode b_L_pile 7 = .ok (.aload_n 0, 1) := by decide +kernel
theorem d_L_pile_8 : decode b_L_pile 8 = .ok (.getfield 21, 3) := by decide +kernel
theorem d_L_pile_11 : decode b_L_pile 11 = .ok (.getfield 211, 3) := by decide +kernel
theorem d_L_pile_14 : decode b_L_pile 14 = .ok (.if_icmp .ge 27, 3) := by decide +kernel
theorem d_L_pile_17 : decode b_L_pile 17 = .ok (.aload_n 0, 1) := by decide +kernel
theorem d_L_pile_18 : decode b_L_pile 18 = .ok (.getfield 21, 3) := by decide +kernel
theorem d_L_pile_21 : decode b_L_pile 21 = .ok (.getfield 217, 3) := by decide +kernel
theorem d_L_pile_24 : decode b_L_pile 24 = .ok (.aload_n 0, 1) := by decide +kernel
theorem d_L_pile_25 : decode b_L_pile 25 = .ok (.getfield 21, 3) := by decide +kernel
theorem d_L_pile_28 : decode b_L_pile 28 = .ok (.getfield 211, 3) := by decide +kernel
theorem d_L_pile_31 : decode b_L_pile 31 = .ok (.iconst 1, 1) := by decide +kernel
theorem d_L_pile_32 : decode b_L_pile 32 = .ok (.isub, 1) := by decide +kernel
theorem d_L_pile_33 : decode b_L_pile 33 = .ok (.iload_n 1, 1) := by decide +kernel
theorem d_L_pile_34 : decode b_L_pile 34 = .ok (.isub, 1) := by decide +kernel
theorem d_L_pile_35 : decode b_L_pile 35 = .ok (.invokestatic 124, 3) := by decide +kernel
theorem d_L_pile_38 : decode b_L_pile 38 = .ok (.goto 5, 3) := by decide +kernel
theorem d_L_pile_41 : decode b_L_pile 41 = .ok (.bipush (-2), 2) := by decide +kernel
theorem d_L_pile_43 : decode b_L_pile 43 = .ok (.ireturn, 1) := by decide +kernel
theorem d_L_resolve_0 : decode b_L_resolve 0 = .ok (.aload_n 0, 1) := by decide +kernel
theorem d_L_resolve_1 : decode b_L_resolve 1 = .ok (.getfield 21, 3) := by decide +kernel
theorem d_L_resolve_4 : decode b_L_resolve 4 = .ok (.getfield 211, 3) := by decide +kernel
theorem d_L_resolve_7 : decode b_L_resolve 7 = .ok (.ifCond .gt 6, 3) := by decide +kernel
theorem d_L_resolve_10 : decode b_L_resolve 10 = .ok (.bipush (-5), 2) := by decide +kernel
theorem d_L_resolve_12 : decode b_L_resolve 12 = .ok (.ireturn, 1) := by decide +kernel
theorem d_L_resolve_13 : decode b_L_resolve 13 = .ok (.aload_n 0, 1) := by decide +kernel
theorem d_L_resolve_14 : decode b_L_resolve 14 = .ok (.getfield 63, 3) := by decide +kernel
theorem d_L_resolve_17 : decode b_L_resolve 17 = .ok (.invokevirtual 220, 3) := by decide +kernel
theorem d_L_resolve_20 : decode b_L_resolve 20 = .ok (.aload_n 0, 1) := by decide +kernel
theorem d_L_resolve_21 : decode b_L_resolve 21 = .ok (.getfield 42, 3) := by decide +kernel
theorem d_L_resolve_24 : decode b_L_resolve 24 = .ok (.aload_n 0, 1) := by decide +kernel
theorem d_L_resolve_25 : decode b_L_resolve 25 = .ok (.getfield 21, 3) := by decide +kernel
theorem d_L_resolve_28 : decode b_L_resolve 28 = .ok (.aload_n 0, 1) := by decide +kernel
theorem d_L_resolve_29 : decode b_L_resolve 29 = .ok (.getfield 63, 3) := by decide +kernel
theorem d_L_resolve_32 : decode b_L_resolve 32 = .ok (.invokevirtual 223, 3) := by decide +kernel
theorem d_L_resolve_35 : decode b_L_resolve 35 = .ok (.aload_n 0, 1) := by decide +kernel
theorem d_L_resolve_36 : decode b_L_resolve 36 = .ok (.getfield 21, 3) := by decide +kernel
theorem d_L_resolve_39 : decode b_L_resolve 39 = .ok (.getfield 211, 3) := by decide +kernel
theorem d_L_resolve_42 : decode b_L_resolve 42 = .ok (.ireturn, 1) := by decide +kernel
theorem d_L_run_0 : decode b_L_run 0 = .ok (.aload_n 0, 1) := by decide +kernel
theorem d_L_run_1 : decode b_L_run 1 = .ok (.getfield 63, 3) := by decide +kernel
theorem d_L_run_4 : decode b_L_run 4 = .ok (.invokevirtual 220, 3) := by decide +kernel
theorem d_L_run_7 : decode b_L_run 7 = .ok (.aload_n 0, 1) := by decide +kernel
theorem d_L_run_8 : decode b_L_run 8 = .ok (.getfield 42, 3) := by decide +kernel
theorem d_L_run_11 : decode b_L_run 11 = .ok (.aload_n 0, 1) := by decide +kernel
theorem d_L_run_12 : decode b_L_run 12 = .ok (.getfield 21, 3) := by decide +kernel
theorem d_L_run_15 : decode b_L_run 15 = .ok (.aload_n 0, 1) := by decide +kernel
theorem d_L_run_16 : decode b_L_run 16 = .ok (.getfield 63, 3) := by decide +kernel
theorem d_L_run_19 : decode b_L_run 19 = .ok (.invokevirtual 227, 3) := by decide +kernel
theorem d_L_run_22 : decode b_L_run 22 = .ok (.aload_n 0, 1) := by decide +kernel
theorem d_L_run_23 : decode b_L_run 23 = .ok (.aload_n 0, 1) := by decide +kernel
theorem d_L_run_24 : decode b_L_run 24 = .ok (.getfield 42, 3) := by decide +kernel
theorem d_L_run_27 : decode b_L_run 27 = .ok (.getfield 230, 3) := by decide +kernel
theorem d_L_run_30 : decode b_L_run 30 = .ok (.putfield 81, 3) := by decide +kernel
theorem d_L_run_33 : decode b_L_run 33 = .ok (.aload_n 0, 1) := by decide +kernel
theorem d_L_run_34 : decode b_L_run 34 = .ok (.aload_n 0, 1) := by decide +kernel
theorem d_L_run_35 : decode b_L_run 35 = .ok (.getfield 42, 3) := by decide +kernel
theorem d_L_run_38 : decode b_L_run 38 = .ok (.getfield 233, 3) := by decide +kernel
theorem d_L_run_41 : decode b_L_run 41 = .ok (.putfield 85, 3) := by decide +kernel
theorem d_L_run_44 : decode b_L_run 44 = .ok (.aload_n 0, 1) := by decide +kernel
theorem d_L_run_45 : decode b_L_run 45 = .ok (.aload_n 0, 1) := by decide +kernel
theorem d_L_run_46 : decode b_L_run 46 = .ok (.getfield 42, 3) := by decide +kernel
theorem d_L_run_49 : decode b_L_run 49 = .ok (.getfield 236, 3) := by decide +kernel
theorem d_L_run_52 : decode b_L_run 52 = .ok (.putfield 88, 3) := by decide +kernel
theorem d_L_run_55 : decode b_L_run 55 = .ok (.aload_n 0, 1) := by decide +kernel
theorem d_L_run_56 : decode b_L_run 56 = .ok (.getfield 42, 3) := by decide +kernel
theorem d_L_run_59 : decode b_L_run 59 = .ok (.getfield 239, 3) := by decide +kernel
theorem d_L_run_62 : decode b_L_run 62 = .ok (.ireturn, 1) := by decide +kernel
theorem d_L_ended_0 : decode b_L_ended 0 = .ok (.iload_n 1, 1) := by decide +kernel
theorem d_L_ended_1 : decode b_L_ended 1 = .ok (.tableswitch 42 0 2 #[27, 32, 37], 27) := by decide +kernel
theorem d_L_ended_28 : decode b_L_ended 28 = .ok (.aload_n 0, 1) := by decide +kernel
theorem d_L_ended_29 : decode b_L_ended 29 = .ok (.getfield 81, 3) := by decide +kernel
theorem d_L_ended_32 : decode b_L_ended 32 = .ok (.ireturn, 1) := by decide +kernel
theorem d_L_ended_33 : decode b_L_ended 33 = .ok (.aload_n 0, 1) := by decide +kernel
theorem d_L_ended_34 : decode b_L_ended 34 = .ok (.getfield 85, 3) := by decide +kernel
theorem d_L_ended_37 : decode b_L_ended 37 = .ok (.ireturn, 1) := by decide +kernel
theorem d_L_ended_38 : decode b_L_ended 38 = .ok (.aload_n 0, 1) := by decide +kernel
theorem d_L_ended_39 : decode b_L_ended 39 = .ok (.getfield 88, 3) := by decide +kernel
theorem d_L_ended_42 : decode b_L_ended 42 = .ok (.ireturn, 1) := by decide +kernel
theorem d_L_ended_43 : decode b_L_ended 43 = .ok (.iconst (-1), 1) := by decide +kernel
theorem d_L_ended_44 : decode b_L_ended 44 = .ok (.ireturn, 1) := by decide +kernel
theorem d_L_turn_0 : decode b_L_turn 0 = .ok (.aload_n 0, 1) := by decide +kernel
theorem d_L_turn_1 : decode b_L_turn 1 = .ok (.getfield 21, 3) := by decide +kernel
theorem d_L_turn_4 : decode b_L_turn 4 = .ok (.invokevirtual 242, 3) := by decide +kernel
theorem d_L_turn_7 : decode b_L_turn 7 = .ok (.ifCond .ne 6, 3) := by decide +kernel
theorem d_L_turn_10 : decode b_L_turn 10 = .ok (.bipush (-5), 2) := by decide +kernel
theorem d_L_turn_12 : decode b_L_turn 12 = .ok (.ireturn, 1) := by decide +kernel
theorem d_L_turn_13 : decode b_L_turn 13 = .ok (.aload_n 0, 1) := by decide +kernel
theorem d_L_turn_14 : decode b_L_turn 14 = .ok (.getfield 42, 3) := by decide +kernel
theorem d_L_turn_17 : decode b_L_turn 17 = .ok (.aload_n 0, 1) := by decide +kernel
theorem d_L_turn_18 : decode b_L_turn 18 = .ok (.getfield 21, 3) := by decide +kernel
theorem d_L_turn_21 : decode b_L_turn 21 = .ok (.aload_n 0, 1) := by decide +kernel
theorem d_L_turn_22 : decode b_L_turn 22 = .ok (.getfield 67, 3) := by decide +kernel
theorem d_L_turn_25 : decode b_L_turn 25 = .ok (.invokevirtual 246, 3) := by decide +kernel
theorem d_L_turn_28 : decode b_L_turn 28 = .ok (.aload_n 0, 1) := by decide +kernel
theorem d_L_turn_29 : decode b_L_turn 29 = .ok (.getfield 21, 3) := by decide +kernel
theorem d_L_turn_32 : decode b_L_turn 32 = .ok (.getfield 249, 3) := by decide +kernel
theorem d_L_turn_35 : decode b_L_turn 35 = .ok (.ireturn, 1) := by decide +kernel
theorem d_L_dry_0 : decode b_L_dry 0 = .ok (.iload_n 1, 1) := by decide +kernel
theorem d_L_dry_1 : decode b_L_dry 1 = .ok (.ifCond .lt 8, 3) := by decide +kernel
theorem d_L_dry_4 : decode b_L_dry 4 = .ok (.iload_n 1, 1) := by decide +kernel
theorem d_L_dry_5 : decode b_L_dry 5 = .ok (.iconst 3, 1) := by decide +kernel
theorem d_L_dry_6 : decode b_L_dry 6 = .ok (.if_icmp .le 6, 3) := by decide +kernel
theorem d_L_dry_9 : decode b_L_dry 9 = .ok (.ldc 159, 2) := by decide +kernel
theorem d_L_dry_11 : decode b_L_dry 11 = .ok (.ireturn, 1) := by decide +kernel
theorem d_L_dry_12 : decode b_L_dry 12 = .ok (.aload_n 0, 1) := by decide +kernel
theorem d_L_dry_13 : decode b_L_dry 13 = .ok (.getfield 32, 3) := by decide +kernel
theorem d_L_dry_16 : decode b_L_dry 16 = .ok (.aload_n 0, 1) := by decide +kernel
theorem d_L_dry_17 : decode b_L_dry 17 = .ok (.getfield 21, 3) := by decide +kernel
theorem d_L_dry_20 : decode b_L_dry 20 = .ok (.invokevirtual 252, 3) := by decide +kernel
theorem d_L_dry_23 : decode b_L_dry 23 = .ok (.aload_n 0, 1) := by decide +kernel
theorem d_L_dry_24 : decode b_L_dry 24 = .ok (.getfield 42, 3) := by decide +kernel
theorem d_L_dry_27 : decode b_L_dry 27 = .ok (.aload_n 0, 1) := by decide +kernel
theorem d_L_dry_28 : decode b_L_dry 28 = .ok (.getfield 32, 3) := by decide +kernel
theorem d_L_dry_31 : decode b_L_dry 31 = .ok (.aload_n 0, 1) := by decide +kernel
theorem d_L_dry_32 : decode b_L_dry 32 = .ok (.getfield 67, 3) := by decide +kernel
theorem d_L_dry_35 : decode b_L_dry 35 = .ok (.invokevirtual 227, 3) := by decide +kernel
theorem d_L_dry_38 : decode b_L_dry 38 = .ok (.iload_n 1, 1) := by decide +kernel
theorem d_L_dry_39 : decode b_L_dry 39 = .ok (.tableswitch 53 0 2 #[25, 33, 41], 25) := by decide +kernel
theorem d_L_dry_64 : decode b_L_dry 64 = .ok (.aload_n 0, 1) := by decide +kernel
theorem d_L_dry_65 : decode b_L_dry 65 = .ok (.getfield 42, 3) := by decide +kernel
theorem d_L_dry_68 : decode b_L_dry 68 = .ok (.getfield 230, 3) := by decide +kernel
theorem d_L_dry_71 : decode b_L_dry 71 = .ok (.ireturn, 1) := by decide +kernel
theorem d_L_dry_72 : decode b_L_dry 72 = .ok (.aload_n 0, 1) := by decide +kernel
theorem d_L_dry_73 : decode b_L_dry 73 = .ok (.getfield 42, 3) := by decide +kernel
theorem d_L_dry_76 : decode b_L_dry 76 = .ok (.getfield 239, 3) := by decide +kernel
theorem d_L_dry_79 : decode b_L_dry 79 = .ok (.ireturn, 1) := by decide +kernel
theorem d_L_dry_80 : decode b_L_dry 80 = .ok (.aload_n 0, 1) := by decide +kernel
theorem d_L_dry_81 : decode b_L_dry 81 = .ok (.getfield 32, 3) := by decide +kernel
theorem d_L_dry_84 : decode b_L_dry 84 = .ok (.getfield 167, 3) := by decide +kernel
theorem d_L_dry_87 : decode b_L_dry 87 = .ok (.iconst 0, 1) := by decide +kernel
theorem d_L_dry_88 : decode b_L_dry 88 = .ok (.invokestatic 124, 3) := by decide +kernel
theorem d_L_dry_91 : decode b_L_dry 91 = .ok (.ireturn, 1) := by decide +kernel
theorem d_L_dry_92 : decode b_L_dry 92 = .ok (.aload_n 0, 1) := by decide +kernel
theorem d_L_dry_93 : decode b_L_dry 93 = .ok (.getfield 32, 3) := by decide +kernel
theorem d_L_dry_96 : decode b_L_dry 96 = .ok (.getfield 167, 3) := by decide +kernel
theorem d_L_dry_99 : decode b_L_dry 99 = .ok (.iconst 1, 1) := by decide +kernel
theorem d_L_dry_100 : decode b_L_dry 100 = .ok (.invokestatic 124, 3) := by decide +kernel
theorem d_L_dry_103 : decode b_L_dry 103 = .ok (.ireturn, 1) := by decide +kernel
theorem d_L_worth_0 : decode b_L_worth 0 = .ok (.aload_n 0, 1) := by decide +kernel
theorem d_L_worth_1 : decode b_L_worth 1 = .ok (.getfield 21, 3) := by decide +kernel
theorem d_L_worth_4 : decode b_L_worth 4 = .ok (.iload_n 1, 1) := by decide +kernel
theorem d_L_worth_5 : decode b_L_worth 5 = .ok (.invokevirtual 137, 3) := by decide +kernel
theorem d_L_worth_8 : decode b_L_worth 8 = .ok (.ifCond .eq 30, 3) := by decide +kernel
theorem d_L_worth_11 : decode b_L_worth 11 = .ok (.aload_n 0, 1) := by decide +kernel
theorem d_L_worth_12 : decode b_L_worth 12 = .ok (.getfield 21, 3) := by decide +kernel
theorem d_L_worth_15 : decode b_L_worth 15 = .ok (.getfield 149, 3) := by decide +kernel
theorem d_L_worth_18 : decode b_L_worth 18 = .ok (.iload_n 1, 1) := by decide +kernel
theorem d_L_worth_19 : decode b_L_worth 19 = .ok (.invokestatic 124, 3) := by decide +kernel
theorem d_L_worth_22 : decode b_L_worth 22 = .ok (.iconst 1, 1) := by decide +kernel
theorem d_L_worth_23 : decode b_L_worth 23 = .ok (.if_icmp .ne 15, 3) := by decide +kernel
theorem d_L_worth_26 : decode b_L_worth 26 = .ok (.aload_n 0, 1) := by decide +kernel
theorem d_L_worth_27 : decode b_L_worth 27 = .ok (.getfield 21, 3) := by decide +kernel
theorem d_L_worth_30 : decode b_L_worth 30 = .ok (.getfield 211, 3) := by decide +kernel
theorem d_L_worth_33 : decode b_L_worth 33 = .ok (.bipush 64, 2) := by decide +kernel
theorem d_L_worth_35 : decode b_L_worth 35 = .ok (.if_icmp .lt 6, 3) := by decide +kernel
theorem d_L_worth_38 : decode b_L_worth 38 = .ok (.ldc 159, 2) := by decide +kernel
theorem d_L_worth_40 : decode b_L_worth 40 = .ok (.ireturn, 1) := by decide +kernel
theorem d_L_worth_41 : decode b_L_worth 41 = .ok (.aload_n 0, 1) := by decide +kernel
theorem d_L_worth_42 : decode b_L_worth 42 = .ok (.iload_n 1, 1) := by decide +kernel
theorem d_L_worth_43 : decode b_L_worth 43 = .ok (.invokevirtual 255, 3) := by decide +kernel
theorem d_L_worth_46 : decode b_L_worth 46 = .ok (.ireturn, 1) := by decide +kernel
theorem d_L_worthPlayed_0 : decode b_L_worthPlayed 0 = .ok (.aload_n 0, 1) := by decide +kernel
theorem d_L_worthPlayed_1 : decode b_L_worthPlayed 1 = .ok (.getfield 32, 3) := by decide +kernel
theorem d_L_worthPlayed_4 : decode b_L_worthPlayed 4 = .ok (.aload_n 0, 1) := by decide +kernel
theorem d_L_worthPlayed_5 : decode b_L_worthPlayed 5 = .ok (.getfield 21, 3) := by decide +kernel
theorem d_L_worthPlayed_8 : decode b_L_worthPlayed 8 = .ok (.invokevirtual 252, 3) := by decide +kernel
theorem d_L_worthPlayed_11 : decode b_L_worthPlayed 11 = .ok (.aload_n 0, 1) := by decide +kernel
theorem d_L_worthPlayed_12 : decode b_L_worthPlayed 12 = .ok (.getfield 32, 3) := by decide +kernel
theorem d_L_worthPlayed_15 : decode b_L_worthPlayed 15 = .ok (.iload_n 1, 1) := by decide +kernel
theorem d_L_worthPlayed_16 : decode b_L_worthPlayed 16 = .ok (.invokevirtual 214, 3) := by decide +kernel
theorem d_L_worthPlayed_19 : decode b_L_worthPlayed 19 = .ok (.aload_n 0, 1) := by decide +kernel
theorem d_L_worthPlayed_20 : decode b_L_worthPlayed 20 = .ok (.getfield 42, 3) := by decide +kernel
theorem d_L_worthPlayed_23 : decode b_L_worthPlayed 23 = .ok (.aload_n 0, 1) := by decide +kernel
theorem d_L_worthPlayed_24 : decode b_L_worthPlayed 24 = .ok (.getfield 32, 3) := by decide +kernel
theorem d_L_worthPlayed_27 : decode b_L_worthPlayed 27 = .ok (.aload_n 0, 1) := by decide +kernel
theorem d_L_worthPlayed_28 : decode b_L_worthPlayed 28 = .ok (.getfield 67, 3) := by decide +kernel
theorem d_L_worthPlayed_31 : decode b_L_worthPlayed 31 = .ok (.invokevirtual 227, 3) := by decide +kernel
theorem d_L_worthPlayed_34 : decode b_L_worthPlayed 34 = .ok (.aload_n 0, 1) := by decide +kernel
theorem d_L_worthPlayed_35 : decode b_L_worthPlayed 35 = .ok (.getfield 32, 3) := by decide +kernel
theorem d_L_worthPlayed_38 : decode b_L_worthPlayed 38 = .ok (.aload_n 0, 1) := by decide +kernel
theorem d_L_worthPlayed_39 : decode b_L_worthPlayed 39 = .ok (.getfield 10, 3) := by decide +kernel
theorem d_L_worthPlayed_42 : decode b_L_worthPlayed 42 = .ok (.getfield 141, 3) := by decide +kernel
theorem d_L_worthPlayed_45 : decode b_L_worthPlayed 45 = .ok (.iload_n 1, 1) := by decide +kernel
theorem d_L_worthPlayed_46 : decode b_L_worthPlayed 46 = .ok (.invokestatic 124, 3) := by decide +kernel
theorem d_L_worthPlayed_49 : decode b_L_worthPlayed 49 = .ok (.invokevirtual 258, 3) := by decide +kernel
theorem d_L_worthPlayed_52 : decode b_L_worthPlayed 52 = .ok (.ireturn, 1) := by decide +kernel
theorem d_L_best_0 : decode b_L_best 0 = .ok (.iload_n 1, 1) := by decide +kernel
theorem d_L_best_1 : decode b_L_best 1 = .ok (.invokestatic 91, 3) := by decide +kernel
theorem d_L_best_4 : decode b_L_best 4 = .ok (.ifCond .eq 12, 3) := by decide +kernel
theorem d_L_best_7 : decode b_L_best 7 = .ok (.iload_n 2, 1) := by decide +kernel
theorem d_L_best_8 : decode b_L_best 8 = .ok (.ifCond .lt 8, 3) := by decide +kernel
theorem d_L_best_11 : decode b_L_best 11 = .ok (.iload_n 2, 1) := by decide +kernel
theorem d_L_best_12 : decode b_L_best 12 = .ok (.iconst 1, 1) := by decide +kernel
theorem d_L_best_13 : decode b_L_best 13 = .ok (.if_icmp .le 6, 3) := by decide +kernel
theorem d_L_best_16 : decode b_L_best 16 = .ok (.ldc 159, 2) := by decide +kernel
theorem d_L_best_18 : decode b_L_best 18 = .ok (.ireturn, 1) := by decide +kernel
theorem d_L_best_19 : decode b_L_best 19 = .ok (.aload_n 0, 1) := by decide +kernel
theorem d_L_best_20 : decode b_L_best 20 = .ok (.getfield 32, 3) := by decide +kernel
theorem d_L_best_23 : decode b_L_best 23 = .ok (.aload_n 0, 1) := by decide +kernel
theorem d_L_best_24 : decode b_L_best 24 = .ok (.getfield 21, 3) := by decide +kernel
theorem d_L_best_27 : decode b_L_best 27 = .ok (.invokevirtual 252, 3) := by decide +kernel
theorem d_L_best_30 : decode b_L_best 30 = .ok (.aload_n 0, 1) := by decide +kernel
theorem d_L_best_31 : decode b_L_best 31 = .ok (.getfield 42, 3) := by decide +kernel
theorem d_L_best_34 : decode b_L_best 34 = .ok (.aload_n 0, 1) := by decide +kernel
theorem d_L_best_35 : decode b_L_best 35 = .ok (.getfield 32, 3) := by decide +kernel
theorem d_L_best_38 : decode b_L_best 38 = .ok (.aload_n 0, 1) := by decide +kernel
theorem d_L_best_39 : decode b_L_best 39 = .ok (.getfield 67, 3) := by decide +kernel
theorem d_L_best_42 : decode b_L_best 42 = .ok (.invokevirtual 227, 3) := by decide +kernel
theorem d_L_best_45 : decode b_L_best 45 = .ok (.aload_n 0, 1) := by decide +kernel
theorem d_L_best_46 : decode b_L_best 46 = .ok (.getfield 32, 3) := by decide +kernel
theorem d_L_best_49 : decode b_L_best 49 = .ok (.iload_n 1, 1) := by decide +kernel
theorem d_L_best_50 : decode b_L_best 50 = .ok (.invokevirtual 258, 3) := by decide +kernel
theorem d_L_best_53 : decode b_L_best 53 = .ok (.istore_n 3, 1) := by decide +kernel
theorem d_L_best_54 : decode b_L_best 54 = .ok (.bipush (-2), 2) := by decide +kernel
theorem d_L_best_56 : decode b_L_best 56 = .ok (.istore 4, 2) := by decide +kernel
theorem d_L_best_58 : decode b_L_best 58 = .ok (.iconst 0, 1) := by decide +kernel
theorem d_L_best_59 : decode b_L_best 59 = .ok (.istore 5, 2) := by decide +kernel
theorem d_L_best_61 : decode b_L_best 61 = .ok (.iload 5, 2) := by decide +kernel
theorem d_L_best_63 : decode b_L_best 63 = .ok (.aload_n 0, 1) := by decide +kernel
theorem d_L_best_64 : decode b_L_best 64 = .ok (.getfield 21, 3) := by decide +kernel
theorem d_L_best_67 : decode b_L_best 67 = .ok (.getfield 98, 3) := by decide +kernel
theorem d_L_best_70 : decode b_L_best 70 = .ok (.if_icmp .ge 77, 3) := by decide +kernel
theorem d_L_best_73 : decode b_L_best 73 = .ok (.aload_n 0, 1) := by decide +kernel
theorem d_L_best_74 : decode b_L_best 74 = .ok (.getfield 21, 3) := by decide +kernel
theorem d_L_best_77 : decode b_L_best 77 = .ok (.getfield 211, 3) := by decide +kernel
theorem d_L_best_80 : decode b_L_best 80 = .ok (.bipush 64, 2) := by decide +kernel
theorem d_L_best_82 : decode b_L_best 82 = .ok (.if_icmp .ge 65, 3) := by decide +kernel
theorem d_L_best_85 : decode b_L_best 85 = .ok (.aload_n 0, 1) := by decide +kernel
theorem d_L_best_86 : decode b_L_best 86 = .ok (.getfield 10, 3) := by decide +kernel
theorem d_L_best_89 : decode b_L_best 89 = .ok (.getfield 141, 3) := by decide +kernel
theorem d_L_best_92 : decode b_L_best 92 = .ok (.iload 5, 2) := by decide +kernel
theorem d_L_best_94 : decode b_L_best 94 = .ok (.invokestatic 124, 3) := by decide +kernel
theorem d_L_best_97 : decode b_L_best 97 = .ok (.iload_n 1, 1) := by decide +kernel
theorem d_L_best_98 : decode b_L_best 98 = .ok (.if_icmp .ne 43, 3) := by decide +kernel
theorem d_L_best_101 : decode b_L_best 101 = .ok (.aload_n 0, 1) := by decide +kernel
theorem d_L_best_102 : decode b_L_best 102 = .ok (.getfield 21, 3) := by decide +kernel
theorem d_L_best_105 : decode b_L_best 105 = .ok (.getfield 149, 3) := by decide +kernel
theorem d_L_best_108 : decode b_L_best 108 = .ok (.iload 5, 2) := by decide +kernel
theorem d_L_best_110 : decode b_L_best 110 = .ok (.invokestatic 124, 3) := by decide +kernel
theorem d_L_best_113 : decode b_L_best 113 = .ok (.iconst 1, 1) := by decide +kernel
theorem d_L_best_114 : decode b_L_best 114 = .ok (.if_icmp .eq 6, 3) := by decide +kernel
theorem d_L_best_117 : decode b_L_best 117 = .ok (.goto 24, 3) := by decide +kernel
theorem d_L_best_120 : decode b_L_best 120 = .ok (.aload_n 0, 1) := by decide +kernel
theorem d_L_best_121 : decode b_L_best 121 = .ok (.iload 5, 2) := by decide +kernel
theorem d_L_best_123 : decode b_L_best 123 = .ok (.invokevirtual 255, 3) := by decide +kernel
theorem d_L_best_126 : decode b_L_best 126 = .ok (.istore 6, 2) := by decide +kernel
theorem d_L_best_128 : decode b_L_best 128 = .ok (.iload 6, 2) := by decide +kernel
theorem d_L_best_130 : decode b_L_best 130 = .ok (.iload_n 3, 1) := by decide +kernel
theorem d_L_best_131 : decode b_L_best 131 = .ok (.if_icmp .le 10, 3) := by decide +kernel
theorem d_L_best_134 : decode b_L_best 134 = .ok (.iload 6, 2) := by decide +kernel
theorem d_L_best_136 : decode b_L_best 136 = .ok (.istore_n 3, 1) := by decide +kernel
theorem d_L_best_137 : decode b_L_best 137 = .ok (.iload 5, 2) := by decide +kernel
theorem d_L_best_139 : decode b_L_best 139 = .ok (.istore 4, 2) := by decide +kernel
theorem d_L_best_141 : decode b_L_best 141 = .ok (.iinc 5 1, 3) := by decide +kernel
theorem d_L_best_144 : decode b_L_best 144 = .ok (.goto (-83), 3) := by decide +kernel
theorem d_L_best_147 : decode b_L_best 147 = .ok (.iload_n 2, 1) := by decide +kernel
theorem d_L_best_148 : decode b_L_best 148 = .ok (.ifCond .ne 8, 3) := by decide +kernel
theorem d_L_best_151 : decode b_L_best 151 = .ok (.iload 4, 2) := by decide +kernel
theorem d_L_best_153 : decode b_L_best 153 = .ok (.goto 4, 3) := by decide +kernel
theorem d_L_best_156 : decode b_L_best 156 = .ok (.iload_n 3, 1) := by decide +kernel
theorem d_L_best_157 : decode b_L_best 157 = .ok (.ireturn, 1) := by decide +kernel
theorem d_L_byTurns_0 : decode b_L_byTurns 0 = .ok (.iload_n 1, 1) := by decide +kernel
theorem d_L_byTurns_1 : decode b_L_byTurns 1 = .ok (.iconst 1, 1) := by decide +kernel
theorem d_L_byTurns_2 : decode b_L_byTurns 2 = .ok (.if_icmp .lt 8, 3) := by decide +kernel
theorem d_L_byTurns_5 : decode b_L_byTurns 5 = .ok (.iload_n 1, 1) := by decide +kernel
theorem d_L_byTurns_6 : decode b_L_byTurns 6 = .ok (.iconst 3, 1) := by decide +kernel
theorem d_L_byTurns_7 : decode b_L_byTurns 7 = .ok (.if_icmp .le 6, 3) := by decide +kernel
theorem d_L_byTurns_10 : decode b_L_byTurns 10 = .ok (.ldc 159, 2) := by decide +kernel
theorem d_L_byTurns_12 : decode b_L_byTurns 12 = .ok (.ireturn, 1) := by decide +kernel
theorem d_L_byTurns_13 : decode b_L_byTurns 13 = .ok (.aload_n 0, 1) := by decide +kernel
theorem d_L_byTurns_14 : decode b_L_byTurns 14 = .ok (.getfield 32, 3) := by decide +kernel
theorem d_L_byTurns_17 : decode b_L_byTurns 17 = .ok (.aload_n 0, 1) := by decide +kernel
theorem d_L_byTurns_18 : decode b_L_byTurns 18 = .ok (.getfield 21, 3) := by decide +kernel
theorem d_L_byTurns_21 : decode b_L_byTurns 21 = .ok (.invokevirtual 252, 3) := by decide +kernel
theorem d_L_byTurns_24 : decode b_L_byTurns 24 = .ok (.aload_n 0, 1) := by decide +kernel
theorem d_L_byTurns_25 : decode b_L_byTurns 25 = .ok (.getfield 35, 3) := by decide +kernel
theorem d_L_byTurns_28 : decode b_L_byTurns 28 = .ok (.aload_n 0, 1) := by decide +kernel
theorem d_L_byTurns_29 : decode b_L_byTurns 29 = .ok (.getfield 42, 3) := by decide +kernel
theorem d_L_byTurns_32 : decode b_L_byTurns 32 = .ok (.aload_n 0, 1) := by decide +kernel
theorem d_L_byTurns_33 : decode b_L_byTurns 33 = .ok (.getfield 67, 3) := by decide +kernel
theorem d_L_byTurns_36 : decode b_L_byTurns 36 = .ok (.iconst 0, 1) := by decide +kernel
theorem d_L_byTurns_37 : decode b_L_byTurns 37 = .ok (.iload_n 1, 1) := by decide +kernel
theorem d_L_byTurns_38 : decode b_L_byTurns 38 = .ok (.invokestatic 261, 3) := by decide +kernel
theorem d_L_byTurns_41 : decode b_L_byTurns 41 = .ok (.ireturn, 1) := by decide +kernel
theorem d_L_outcome_0 : decode b_L_outcome 0 = .ok (.iload_n 3, 1) := by decide +kernel
theorem d_L_outcome_1 : decode b_L_outcome 1 = .ok (.ifCond .lt 15, 3) := by decide +kernel
theorem d_L_outcome_4 : decode b_L_outcome 4 = .ok (.iload_n 3, 1) := by decide +kernel
theorem d_L_outcome_5 : decode b_L_outcome 5 = .ok (.aload_n 0, 1) := by decide +kernel
theorem d_L_outcome_6 : decode b_L_outcome 6 = .ok (.arraylength, 1) := by decide +kernel
theorem d_L_outcome_7 : decode b_L_outcome 7 = .ok (.if_icmp .ge 9, 3) := by decide +kernel
theorem d_L_outcome_10 : decode b_L_outcome 10 = .ok (.aload_n 0, 1) := by decide +kernel
theorem d_L_outcome_11 : decode b_L_outcome 11 = .ok (.iload_n 3, 1) := by decide +kernel
theorem d_L_outcome_12 : decode b_L_outcome 12 = .ok (.aaload, 1) := by decide +kernel
theorem d_L_outcome_13 : decode b_L_outcome 13 = .ok (.goto 4, 3) := by decide +kernel
theorem d_L_outcome_16 : decode b_L_outcome 16 = .ok (.aconst_null, 1) := by decide +kernel
theorem d_L_outcome_17 : decode b_L_outcome 17 = .ok (.astore 5, 2) := by decide +kernel
theorem d_L_outcome_19 : decode b_L_outcome 19 = .ok (.aload 5, 2) := by decide +kernel
theorem d_L_outcome_21 : decode b_L_outcome 21 = .ok (.ifnonnull 6, 3) := by decide +kernel
theorem d_L_outcome_24 : decode b_L_outcome 24 = .ok (.ldc 159, 2) := by decide +kernel
theorem d_L_outcome_26 : decode b_L_outcome 26 = .ok (.ireturn, 1) := by decide +kernel
theorem d_L_outcome_27 : decode b_L_outcome 27 = .ok (.iload 4, 2) := by decide +kernel
theorem d_L_outcome_29 : decode b_L_outcome 29 = .ok (.ifCond .le 19, 3) := by decide +kernel
theorem d_L_outcome_32 : decode b_L_outcome 32 = .ok (.iload_n 3, 1) := by decide +kernel
theorem d_L_outcome_33 : decode b_L_outcome 33 = .ok (.iconst 1, 1) := by decide +kernel
theorem d_L_outcome_34 : decode b_L_outcome 34 = .ok (.iadd, 1) := by decide +kernel
theorem d_L_outcome_35 : decode b_L_outcome 35 = .ok (.aload_n 0, 1) := by decide +kernel
theorem d_L_outcome_36 : decode b_L_outcome 36 = .ok (.arraylength, 1) := by decide +kernel
theorem d_L_outcome_37 : decode b_L_outcome 37 = .ok (.if_icmp .ge 11, 3) := by decide +kernel
theorem d_L_outcome_40 : decode b_L_outcome 40 = .ok (.aload_n 0, 1) := by decide +kernel
theorem d_L_outcome_41 : decode b_L_outcome 41 = .ok (.iload_n 3, 1) := by decide +kernel
theorem d_L_outcome_42 : decode b_L_outcome 42 = .ok (.iconst 1, 1) := by decide +kernel
theorem d_L_outcome_43 : decode b_L_outcome 43 = .ok (.iadd, 1) := by decide +kernel
theorem d_L_outcome_44 : decode b_L_outcome 44 = .ok (.aaload, 1) := by decide +kernel
theorem d_L_outcome_45 : decode b_L_outcome 45 = .ok (.goto 4, 3) := by decide +kernel
theorem d_L_outcome_48 : decode b_L_outcome 48 = .ok (.aconst_null, 1) := by decide +kernel
theorem d_L_outcome_49 : decode b_L_outcome 49 = .ok (.astore 6, 2) := by decide +kernel
theorem d_L_outcome_51 : decode b_L_outcome 51 = .ok (.aload 6, 2) := by decide +kernel
theorem d_L_outcome_53 : decode b_L_outcome 53 = .ok (.ifnonnull 14, 3) := by decide +kernel
theorem d_L_outcome_56 : decode b_L_outcome 56 = .ok (.aload 5, 2) := by decide +kernel
theorem d_L_outcome_58 : decode b_L_outcome 58 = .ok (.aload 5, 2) := by decide +kernel
theorem d_L_outcome_60 : decode b_L_outcome 60 = .ok (.getfield 249, 3) := by decide +kernel
theorem d_L_outcome_63 : decode b_L_outcome 63 = .ok (.invokevirtual 258, 3) := by decide +kernel
theorem d_L_outcome_66 : decode b_L_outcome 66 = .ok (.ireturn, 1) := by decide +kernel
theorem d_L_outcome_67 : decode b_L_outcome 67 = .ok (.iload_n 3, 1) := by decide +kernel
theorem d_L_outcome_68 : decode b_L_outcome 68 = .ok (.iconst 2, 1) := by decide +kernel
theorem d_L_outcome_69 : decode b_L_outcome 69 = .ok (.irem, 1) := by decide +kernel
theorem d_L_outcome_70 : decode b_L_outcome 70 = .ok (.ifCond .ne 7, 3) := by decide +kernel
theorem d_L_outcome_73 : decode b_L_outcome 73 = .ok (.iconst 1, 1) := by decide +kernel
theorem d_L_outcome_74 : decode b_L_outcome 74 = .ok (.goto 4, 3) := by decide +kernel
theorem d_L_outcome_77 : decode b_L_outcome 77 = .ok (.iconst 0, 1) := by decide +kernel
theorem d_L_outcome_78 : decode b_L_outcome 78 = .ok (.istore 7, 2) := by decide +kernel
theorem d_L_outcome_80 : decode b_L_outcome 80 = .ok (.iload 7, 2) := by decide +kernel
theorem d_L_outcome_82 : decode b_L_outcome 82 = .ok (.ifCond .eq 11, 3) := by decide +kernel
theorem d_L_outcome_85 : decode b_L_outcome 85 = .ok (.aload 5, 2) := by decide +kernel
theorem d_L_outcome_87 : decode b_L_outcome 87 = .ok (.getfield 249, 3) := by decide +kernel
theorem d_L_outcome_90 : decode b_L_outcome 90 = .ok (.goto 10, 3) := by decide +kernel
theorem d_L_outcome_93 : decode b_L_outcome 93 = .ok (.iconst 1, 1) := by decide +kernel
theorem d_L_outcome_94 : decode b_L_outcome 94 = .ok (.aload 5, 2) := by decide +kernel
theorem d_L_outcome_96 : decode b_L_outcome 96 = .ok (.getfield 249, 3) := by decide +kernel
theorem d_L_outcome_99 : decode b_L_outcome 99 = .ok (.isub, 1) := by decide +kernel
theorem d_L_outcome_100 : decode b_L_outcome 100 = .ok (.istore 8, 2) := by decide +kernel
theorem d_L_outcome_102 : decode b_L_outcome 102 = .ok (.iconst 0, 1) := by decide +kernel
theorem d_L_outcome_103 : decode b_L_outcome 103 = .ok (.istore 9, 2) := by decide +kernel
theorem d_L_outcome_105 : decode b_L_outcome 105 = .ok (.iconst 0, 1) := by decide +kernel
theorem d_L_outcome_106 : decode b_L_outcome 106 = .ok (.istore 10, 2) := by decide +kernel
theorem d_L_outcome_108 : decode b_L_outcome 108 = .ok (.iload 10, 2) := by decide +kernel
theorem d_L_outcome_110 : decode b_L_outcome 110 = .ok (.iconst 3, 1) := by decide +kernel
theorem d_L_outcome_111 : decode b_L_outcome 111 = .ok (.if_icmp .gt 128, 3) := by decide +kernel
theorem d_L_outcome_114 : decode b_L_outcome 114 = .ok (.iload 10, 2) := by decide +kernel
theorem d_L_outcome_116 : decode b_L_outcome 116 = .ok (.ifCond .ne 8, 3) := by decide +kernel
theorem d_L_outcome_119 : decode b_L_outcome 119 = .ok (.bipush (-2), 2) := by decide +kernel
theorem d_L_outcome_121 : decode b_L_outcome 121 = .ok (.goto 15, 3) := by decide +kernel
theorem d_L_outcome_124 : decode b_L_outcome 124 = .ok (.aload 5, 2) := by decide +kernel
theorem d_L_outcome_126 : decode b_L_outcome 126 = .ok (.iload 8, 2) := by decide +kernel
theorem d_L_outcome_128 : decode b_L_outcome 128 = .ok (.iconst 1, 1) := by decide +kernel
theorem d_L_outcome_129 : decode b_L_outcome 129 = .ok (.iload 10, 2) := by decide +kernel
theorem d_L_outcome_131 : decode b_L_outcome 131 = .ok (.iconst 1, 1) := by decide +kernel
theorem d_L_outcome_132 : decode b_L_outcome 132 = .ok (.isub, 1) := by decide +kernel
theorem d_L_outcome_133 : decode b_L_outcome 133 = .ok (.invokevirtual 265, 3) := by decide +kernel
theorem d_L_outcome_136 : decode b_L_outcome 136 = .ok (.istore 11, 2) := by decide +kernel
theorem d_L_outcome_138 : decode b_L_outcome 138 = .ok (.iload 10, 2) := by decide +kernel
theorem d_L_outcome_140 : decode b_L_outcome 140 = .ok (.ifCond .le 21, 3) := by decide +kernel
theorem d_L_outcome_143 : decode b_L_outcome 143 = .ok (.iload 11, 2) := by decide +kernel
theorem d_L_outcome_145 : decode b_L_outcome 145 = .ok (.ifCond .lt 94, 3) := by decide +kernel
theorem d_L_outcome_148 : decode b_L_outcome 148 = .ok (.aload 5, 2) := by decide +kernel
theorem d_L_outcome_150 : decode b_L_outcome 150 = .ok (.getfield 211, 3) := by decide +kernel
theorem d_L_outcome_153 : decode b_L_outcome 153 = .ok (.bipush 64, 2) := by decide +kernel
theorem d_L_outcome_155 : decode b_L_outcome 155 = .ok (.if_icmp .lt 6, 3) := by decide +kernel
theorem d_L_outcome_158 : decode b_L_outcome 158 = .ok (.goto 81, 3) := by decide +kernel
theorem d_L_outcome_161 : decode b_L_outcome 161 = .ok (.aload 6, 2) := by decide +kernel
theorem d_L_outcome_163 : decode b_L_outcome 163 = .ok (.aload 5, 2) := by decide +kernel
theorem d_L_outcome_165 : decode b_L_outcome 165 = .ok (.invokevirtual 252, 3) := by decide +kernel
theorem d_L_outcome_168 : decode b_L_outcome 168 = .ok (.iload 10, 2) := by decide +kernel
theorem d_L_outcome_170 : decode b_L_outcome 170 = .ok (.ifCond .le 10, 3) := by decide +kernel
theorem d_L_outcome_173 : decode b_L_outcome 173 = .ok (.aload 6, 2) := by decide +kernel
theorem d_L_outcome_175 : decode b_L_outcome 175 = .ok (.iload 11, 2) := by decide +kernel
theorem d_L_outcome_177 : decode b_L_outcome 177 = .ok (.invokevirtual 214, 3) := by decide +kernel
theorem d_L_outcome_180 : decode b_L_outcome 180 = .ok (.aload_n 1, 1) := by decide +kernel
theorem d_L_outcome_181 : decode b_L_outcome 181 = .ok (.aload 6, 2) := by decide +kernel
theorem d_L_outcome_183 : decode b_L_outcome 183 = .ok (.aload_n 2, 1) := by decide +kernel
theorem d_L_outcome_184 : decode b_L_outcome 184 = .ok (.invokevirtual 227, 3) := by decide +kernel
theorem d_L_outcome_187 : decode b_L_outcome 187 = .ok (.aload_n 0, 1) := by decide +kernel
theorem d_L_outcome_188 : decode b_L_outcome 188 = .ok (.aload_n 1, 1) := by decide +kernel
theorem d_L_outcome_189 : decode b_L_outcome 189 = .ok (.aload_n 2, 1) := by decide +kernel
theorem d_L_outcome_190 : decode b_L_outcome 190 = .ok (.iload_n 3, 1) := by decide +kernel
theorem d_L_outcome_191 : decode b_L_outcome 191 = .ok (.iconst 1, 1) := by decide +kernel
theorem d_L_outcome_192 : decode b_L_outcome 192 = .ok (.iadd, 1) := by decide +kernel
theorem d_L_outcome_193 : decode b_L_outcome 193 = .ok (.iload 4, 2) := by decide +kernel
theorem d_L_outcome_195 : decode b_L_outcome 195 = .ok (.iconst 1, 1) := by decide +kernel
theorem d_L_outcome_196 : decode b_L_outcome 196 = .ok (.isub, 1) := by decide +kernel
theorem d_L_outcome_197 : decode b_L_outcome 197 = .ok (.invokestatic 261, 3) := by decide +kernel
theorem d_L_outcome_200 : decode b_L_outcome 200 = .ok (.istore 12, 2) := by decide +kernel
theorem d_L_outcome_202 : decode b_L_outcome 202 = .ok (.iload 10, 2) := by decide +kernel
theorem d_L_outcome_204 : decode b_L_outcome 204 = .ok (.ifCond .eq 25, 3) := by decide +kernel
theorem d_L_outcome_207 : decode b_L_outcome 207 = .ok (.iload 7, 2) := by decide +kernel
theorem d_L_outcome_209 : decode b_L_outcome 209 = .ok (.ifCond .eq 13, 3) := by decide +kernel
theorem d_L_outcome_212 : decode b_L_outcome 212 = .ok (.iload 12, 2) := by decide +kernel
theorem d_L_outcome_214 : decode b_L_outcome 214 = .ok (.iload 9, 2) := by decide +kernel
theorem d_L_outcome_216 : decode b_L_outcome 216 = .ok (.if_icmp .le 17, 3) := by decide +kernel
theorem d_L_outcome_219 : decode b_L_outcome 219 = .ok (.goto 10, 3) := by decide +kernel
theorem d_L_outcome_222 : decode b_L_outcome 222 = .ok (.iload 12, 2) := by decide +kernel
theorem d_L_outcome_224 : decode b_L_outcome 224 = .ok (.iload 9, 2) := by decide +kernel
theorem d_L_outcome_226 : decode b_L_outcome 226 = .ok (.if_icmp .ge 7, 3) := by decide +kernel
theorem d_L_outcome_229 : decode b_L_outcome 229 = .ok (.iload 12, 2) := by decide +kernel
theorem d_L_outcome_231 : decode b_L_outcome 231 = .ok (.istore 9, 2) := by decide +kernel
theorem d_L_outcome_233 : decode b_L_outcome 233 = .ok (.iinc 10 1, 3) := by decide +kernel
theorem d_L_outcome_236 : decode b_L_outcome 236 = .ok (.goto (-128), 3) := by decide +kernel
theorem d_L_outcome_239 : decode b_L_outcome 239 = .ok (.iload 9, 2) := by decide +kernel
theorem d_L_outcome_241 : decode b_L_outcome 241 = .ok (.ireturn, 1) := by decide +kernel
theorem d_L_matter_0 : decode b_L_matter 0 = .ok (.aload_n 0, 1) := by decide +kernel
theorem d_L_matter_1 : decode b_L_matter 1 = .ok (.getfield 32, 3) := by decide +kernel
theorem d_L_matter_4 : decode b_L_matter 4 = .ok (.aload_n 0, 1) := by decide +kernel
theorem d_L_matter_5 : decode b_L_matter 5 = .ok (.getfield 21, 3) := by decide +kernel
theorem d_L_matter_8 : decode b_L_matter 8 = .ok (.invokevirtual 252, 3) := by decide +kernel
theorem d_L_matter_11 : decode b_L_matter 11 = .ok (.aload_n 0, 1) := by decide +kernel
theorem d_L_matter_12 : decode b_L_matter 12 = .ok (.getfield 42, 3) := by decide +kernel
theorem d_L_matter_15 : decode b_L_matter 15 = .ok (.aload_n 0, 1) := by decide +kernel
theorem d_L_matter_16 : decode b_L_matter 16 = .ok (.getfield 32, 3) := by decide +kernel
theorem d_L_matter_19 : decode b_L_matter 19 = .ok (.aload_n 0, 1) := by decide +kernel
theorem d_L_matter_20 : decode b_L_matter 20 = .ok (.getfield 67, 3) := by decide +kernel
theorem d_L_matter_23 : decode b_L_matter 23 = .ok (.invokevirtual 227, 3) := by decide +kernel
theorem d_L_matter_26 : decode b_L_matter 26 = .ok (.aload_n 0, 1) := by decide +kernel
theorem d_L_matter_27 : decode b_L_matter 27 = .ok (.getfield 42, 3) := by decide +kernel
theorem d_L_matter_30 : decode b_L_matter 30 = .ok (.getfield 230, 3) := by decide +kernel
theorem d_L_matter_33 : decode b_L_matter 33 = .ok (.istore_n 1, 1) := by decide +kernel
theorem d_L_matter_34 : decode b_L_matter 34 = .ok (.aload_n 0, 1) := by decide +kernel
theorem d_L_matter_35 : decode b_L_matter 35 = .ok (.getfield 32, 3) := by decide +kernel
theorem d_L_matter_38 : decode b_L_matter 38 = .ok (.getfield 167, 3) := by decide +kernel
theorem d_L_matter_41 : decode b_L_matter 41 = .ok (.iconst 0, 1) := by decide +kernel
theorem d_L_matter_42 : decode b_L_matter 42 = .ok (.invokestatic 124, 3) := by decide +kernel
theorem d_L_matter_45 : decode b_L_matter 45 = .ok (.istore_n 2, 1) := by decide +kernel
theorem d_L_matter_46 : decode b_L_matter 46 = .ok (.aload_n 0, 1) := by decide +kernel
theorem d_L_matter_47 : decode b_L_matter 47 = .ok (.getfield 32, 3) := by decide +kernel
theorem d_L_matter_50 : decode b_L_matter 50 = .ok (.getfield 167, 3) := by decide +kernel
theorem d_L_matter_53 : decode b_L_matter 53 = .ok (.iconst 1, 1) := by decide +kernel
theorem d_L_matter_54 : decode b_L_matter 54 = .ok (.invokestatic 124, 3) := by decide +kernel
theorem d_L_matter_57 : decode b_L_matter 57 = .ok (.istore_n 3, 1) := by decide +kernel
theorem d_L_matter_58 : decode b_L_matter 58 = .ok (.iconst 0, 1) := by decide +kernel
theorem d_L_matter_59 : decode b_L_matter 59 = .ok (.istore 4, 2) := by decide +kernel
theorem d_L_matter_61 : decode b_L_matter 61 = .ok (.iconst 0, 1) := by decide +kernel
theorem d_L_matter_62 : decode b_L_matter 62 = .ok (.istore 5, 2) := by decide +kernel
theorem d_L_matter_64 : decode b_L_matter 64 = .ok (.iload 5, 2) := by decide +kernel
theorem d_L_matter_66 : decode b_L_matter 66 = .ok (.aload_n 0, 1) := by decide +kernel
theorem d_L_matter_67 : decode b_L_matter 67 = .ok (.getfield 21, 3) := by decide +kernel
theorem d_L_matter_70 : decode b_L_matter 70 = .ok (.getfield 98, 3) := by decide +kernel
theorem d_L_matter_73 : decode b_L_matter 73 = .ok (.if_icmp .ge 84, 3) := by decide +kernel
theorem d_L_matter_76 : decode b_L_matter 76 = .ok (.aload_n 0, 1) := by decide +kernel
theorem d_L_matter_77 : decode b_L_matter 77 = .ok (.getfield 21, 3) := by decide +kernel
theorem d_L_matter_80 : decode b_L_matter 80 = .ok (.getfield 149, 3) := by decide +kernel
theorem d_L_matter_83 : decode b_L_matter 83 = .ok (.iload 5, 2) := by decide +kernel
theorem d_L_matter_85 : decode b_L_matter 85 = .ok (.invokestatic 124, 3) := by decide +kernel
theorem d_L_matter_88 : decode b_L_matter 88 = .ok (.iconst 3, 1) := by decide +kernel
theorem d_L_matter_89 : decode b_L_matter 89 = .ok (.if_icmp .eq 6, 3) := by decide +kernel
theorem d_L_matter_92 : decode b_L_matter 92 = .ok (.goto 59, 3) := by decide +kernel
theorem d_L_matter_95 : decode b_L_matter 95 = .ok (.aload_n 0, 1) := by decide +kernel
theorem d_L_matter_96 : decode b_L_matter 96 = .ok (.iload 5, 2) := by decide +kernel
theorem d_L_matter_98 : decode b_L_matter 98 = .ok (.invokevirtual 269, 3) := by decide +kernel
theorem d_L_matter_101 : decode b_L_matter 101 = .ok (.aload_n 0, 1) := by decide +kernel
theorem d_L_matter_102 : decode b_L_matter 102 = .ok (.getfield 42, 3) := by decide +kernel
theorem d_L_matter_105 : decode b_L_matter 105 = .ok (.getfield 230, 3) := by decide +kernel
theorem d_L_matter_108 : decode b_L_matter 108 = .ok (.iload_n 1, 1) := by decide +kernel
theorem d_L_matter_109 : decode b_L_matter 109 = .ok (.if_icmp .ne 33, 3) := by decide +kernel
theorem d_L_matter_112 : decode b_L_matter 112 = .ok (.aload_n 0, 1) := by decide +kernel
theorem d_L_matter_113 : decode b_L_matter 113 = .ok (.getfield 32, 3) := by decide +kernel
theorem d_L_matter_116 : decode b_L_matter 116 = .ok (.getfield 167, 3) := by decide +kernel
theorem d_L_matter_119 : decode b_L_matter 119 = .ok (.iconst 0, 1) := by decide +kernel
theorem d_L_matter_120 : decode b_L_matter 120 = .ok (.invokestatic 124, 3) := by decide +kernel
theorem d_L_matter_123 : decode b_L_matter 123 = .ok (.iload_n 2, 1) := by decide +kernel
theorem d_L_matter_124 : decode b_L_matter 124 = .ok (.if_icmp .ne 18, 3) := by decide +kernel
theorem d_L_matter_127 : decode b_L_matter 127 = .ok (.aload_n 0, 1) := by decide +kernel
theorem d_L_matter_128 : decode b_L_matter 128 = .ok (.getfield 32, 3) := by decide +kernel
theorem d_L_matter_131 : decode b_L_matter 131 = .ok (.getfield 167, 3) := by decide +kernel
theorem d_L_matter_134 : decode b_L_matter 134 = .ok (.iconst 1, 1) := by decide +kernel
theorem d_L_matter_135 : decode b_L_matter 135 = .ok (.invokestatic 124, 3) := by decide +kernel
theorem d_L_matter_138 : decode b_L_matter 138 = .ok (.iload_n 3, 1) := by decide +kernel
theorem d_L_matter_139 : decode b_L_matter 139 = .ok (.if_icmp .eq 12, 3) := by decide +kernel
theorem d_L_matter_142 : decode b_L_matter 142 = .ok (.iload 4, 2) := by decide +kernel
theorem d_L_matter_144 : decode b_L_matter 144 = .ok (.iconst 1, 1) := by decide +kernel
theorem d_L_matter_145 : decode b_L_matter 145 = .ok (.iload 5, 2) := by decide +kernel
theorem d_L_matter_147 : decode b_L_matter 147 = .ok (.ishl, 1) := by decide +kernel
theorem d_L_matter_148 : decode b_L_matter 148 = .ok (.ior, 1) := by decide +kernel
theorem d_L_matter_149 : decode b_L_matter 149 = .ok (.istore 4, 2) := by decide +kernel
theorem d_L_matter_151 : decode b_L_matter 151 = .ok (.iinc 5 1, 3) := by decide +kernel
theorem d_L_matter_154 : decode b_L_matter 154 = .ok (.goto (-90), 3) := by decide +kernel
theorem d_L_matter_157 : decode b_L_matter 157 = .ok (.iload 4, 2) := by decide +kernel
theorem d_L_matter_159 : decode b_L_matter 159 = .ok (.ireturn, 1) := by decide +kernel
theorem d_L_runWithout_0 : decode b_L_runWithout 0 = .ok (.aload_n 0, 1) := by decide +kernel
theorem d_L_runWithout_1 : decode b_L_runWithout 1 = .ok (.getfield 32, 3) := by decide +kernel
theorem d_L_runWithout_4 : decode b_L_runWithout 4 = .ok (.aload_n 0, 1) := by decide +kernel
theorem d_L_runWithout_5 : decode b_L_runWithout 5 = .ok (.getfield 21, 3) := by decide +kernel
theorem d_L_runWithout_8 : decode b_L_runWithout 8 = .ok (.invokevirtual 252, 3) := by decide +kernel
theorem d_L_runWithout_11 : decode b_L_runWithout 11 = .ok (.aload_n 0, 1) := by decide +kernel
theorem d_L_runWithout_12 : decode b_L_runWithout 12 = .ok (.getfield 32, 3) := by decide +kernel
theorem d_L_runWithout_15 : decode b_L_runWithout 15 = .ok (.iload_n 1, 1) := by decide +kernel
theorem d_L_runWithout_16 : decode b_L_runWithout 16 = .ok (.invokevirtual 272, 3) := by decide +kernel
theorem d_L_runWithout_19 : decode b_L_runWithout 19 = .ok (.aload_n 0, 1) := by decide +kernel
theorem d_L_runWithout_20 : decode b_L_runWithout 20 = .ok (.getfield 42, 3) := by decide +kernel
theorem d_L_runWithout_23 : decode b_L_runWithout 23 = .ok (.aload_n 0, 1) := by decide +kernel
theorem d_L_runWithout_24 : decode b_L_runWithout 24 = .ok (.getfield 32, 3) := by decide +kernel
theorem d_L_runWithout_27 : decode b_L_runWithout 27 = .ok (.aload_n 0, 1) := by decide +kernel
theorem d_L_runWithout_28 : decode b_L_runWithout 28 = .ok (.getfield 67, 3) := by decide +kernel
theorem d_L_runWithout_31 : decode b_L_runWithout 31 = .ok (.invokevirtual 227, 3) := by decide +kernel
theorem d_L_runWithout_34 : decode b_L_runWithout 34 = .ok (.return_, 1) := by decide +kernel
theorem d_L_swing_0 : decode b_L_swing 0 = .ok (.aload_n 0, 1) := by decide +kernel
theorem d_L_swing_1 : decode b_L_swing 1 = .ok (.getfield 21, 3) := by decide +kernel
theorem d_L_swing_4 : decode b_L_swing 4 = .ok (.iload_n 1, 1) := by decide +kernel
theorem d_L_swing_5 : decode b_L_swing 5 = .ok (.invokevirtual 137, 3) := by decide +kernel
theorem d_L_swing_8 : decode b_L_swing 8 = .ok (.ifCond .eq 18, 3) := by decide +kernel
theorem d_L_swing_11 : decode b_L_swing 11 = .ok (.aload_n 0, 1) := by decide +kernel
theorem d_L_swing_12 : decode b_L_swing 12 = .ok (.getfield 21, 3) := by decide +kernel
theorem d_L_swing_15 : decode b_L_swing 15 = .ok (.getfield 149, 3) := by decide +kernel
theorem d_L_swing_18 : decode b_L_swing 18 = .ok (.iload_n 1, 1) := by decide +kernel
theorem d_L_swing_19 : decode b_L_swing 19 = .ok (.invokestatic 124, 3) := by decide +kernel
theorem d_L_swing_22 : decode b_L_swing 22 = .ok (.iconst 3, 1) := by decide +kernel
theorem d_L_swing_23 : decode b_L_swing 23 = .ok (.if_icmp .eq 6, 3) := by decide +kernel
theorem d_L_swing_26 : decode b_L_swing 26 = .ok (.ldc 159, 2) := by decide +kernel
theorem d_L_swing_28 : decode b_L_swing 28 = .ok (.ireturn, 1) := by decide +kernel
theorem d_L_swing_29 : decode b_L_swing 29 = .ok (.aload_n 0, 1) := by decide +kernel
theorem d_L_swing_30 : decode b_L_swing 30 = .ok (.getfield 10, 3) := by decide +kernel
theorem d_L_swing_33 : decode b_L_swing 33 = .ok (.getfield 141, 3) := by decide +kernel
theorem d_L_swing_36 : decode b_L_swing 36 = .ok (.iload_n 1, 1) := by decide +kernel
theorem d_L_swing_37 : decode b_L_swing 37 = .ok (.invokestatic 124, 3) := by decide +kernel
theorem d_L_swing_40 : decode b_L_swing 40 = .ok (.istore_n 2, 1) := by decide +kernel
theorem d_L_swing_41 : decode b_L_swing 41 = .ok (.aload_n 0, 1) := by decide +kernel
theorem d_L_swing_42 : decode b_L_swing 42 = .ok (.getfield 32, 3) := by decide +kernel
theorem d_L_swing_45 : decode b_L_swing 45 = .ok (.aload_n 0, 1) := by decide +kernel
theorem d_L_swing_46 : decode b_L_swing 46 = .ok (.getfield 21, 3) := by decide +kernel
theorem d_L_swing_49 : decode b_L_swing 49 = .ok (.invokevirtual 252, 3) := by decide +kernel
theorem d_L_swing_52 : decode b_L_swing 52 = .ok (.aload_n 0, 1) := by decide +kernel
theorem d_L_swing_53 : decode b_L_swing 53 = .ok (.getfield 42, 3) := by decide +kernel
theorem d_L_swing_56 : decode b_L_swing 56 = .ok (.aload_n 0, 1) := by decide +kernel
theorem d_L_swing_57 : decode b_L_swing 57 = .ok (.getfield 32, 3) := by decide +kernel
theorem d_L_swing_60 : decode b_L_swing 60 = .ok (.aload_n 0, 1) := by decide +kernel
theorem d_L_swing_61 : decode b_L_swing 61 = .ok (.getfield 67, 3) := by decide +kernel
theorem d_L_swing_64 : decode b_L_swing 64 = .ok (.invokevirtual 227, 3) := by decide +kernel
theorem d_L_swing_67 : decode b_L_swing 67 = .ok (.aload_n 0, 1) := by decide +kernel
theorem d_L_swing_68 : decode b_L_swing 68 = .ok (.getfield 32, 3) := by decide +kernel
theorem d_L_swing_71 : decode b_L_swing 71 = .ok (.iload_n 2, 1) := by decide +kernel
theorem d_L_swing_72 : decode b_L_swing 72 = .ok (.invokevirtual 258, 3) := by decide +kernel
theorem d_L_swing_75 : decode b_L_swing 75 = .ok (.istore_n 3, 1) := by decide +kernel
theorem d_L_swing_76 : decode b_L_swing 76 = .ok (.aload_n 0, 1) := by decide +kernel
theorem d_L_swing_77 : decode b_L_swing 77 = .ok (.iload_n 1, 1) := by decide +kernel
theorem d_L_swing_78 : decode b_L_swing 78 = .ok (.invokevirtual 269, 3) := by decide +kernel
theorem d_L_swing_81 : decode b_L_swing 81 = .ok (.iload_n 3, 1) := by decide +kernel
theorem d_L_swing_82 : decode b_L_swing 82 = .ok (.aload_n 0, 1) := by decide +kernel
theorem d_L_swing_83 : decode b_L_swing 83 = .ok (.getfield 32, 3) := by decide +kernel
theorem d_L_swing_86 : decode b_L_swing 86 = .ok (.iload_n 2, 1) := by decide +kernel
theorem d_L_swing_87 : decode b_L_swing 87 = .ok (.invokevirtual 258, 3) := by decide +kernel
theorem d_L_swing_90 : decode b_L_swing 90 = .ok (.isub, 1) := by decide +kernel
theorem d_L_swing_91 : decode b_L_swing 91 = .ok (.ireturn, 1) := by decide +kernel
theorem d_L_next_0 : decode b_L_next 0 = .ok (.iload_n 1, 1) := by decide +kernel
theorem d_L_next_1 : decode b_L_next 1 = .ok (.invokestatic 91, 3) := by decide +kernel
theorem d_L_next_4 : decode b_L_next 4 = .ok (.ifCond .ne 5, 3) := by decide +kernel
theorem d_L_next_7 : decode b_L_next 7 = .ok (.iconst (-1), 1) := by decide +kernel
theorem d_L_next_8 : decode b_L_next 8 = .ok (.ireturn, 1) := by decide +kernel
theorem d_L_next_9 : decode b_L_next 9 = .ok (.aload_n 0, 1) := by decide +kernel
theorem d_L_next_10 : decode b_L_next 10 = .ok (.getfield 21, 3) := by decide +kernel
theorem d_L_next_13 : decode b_L_next 13 = .ok (.iload_n 1, 1) := by decide +kernel
theorem d_L_next_14 : decode b_L_next 14 = .ok (.iconst 0, 1) := by decide +kernel
theorem d_L_next_15 : decode b_L_next 15 = .ok (.invokevirtual 170, 3) := by decide +kernel
theorem d_L_next_18 : decode b_L_next 18 = .ok (.istore_n 2, 1) := by decide +kernel
theorem d_L_next_19 : decode b_L_next 19 = .ok (.iload_n 2, 1) := by decide +kernel
theorem d_L_next_20 : decode b_L_next 20 = .ok (.ifCond .gt 6, 3) := by decide +kernel
theorem d_L_next_23 : decode b_L_next 23 = .ok (.bipush (-2), 2) := by decide +kernel
theorem d_L_next_25 : decode b_L_next 25 = .ok (.ireturn, 1) := by decide +kernel
theorem d_L_next_26 : decode b_L_next 26 = .ok (.aload_n 0, 1) := by decide +kernel
theorem d_L_next_27 : decode b_L_next 27 = .ok (.getfield 21, 3) := by decide +kernel
theorem d_L_next_30 : decode b_L_next 30 = .ok (.iload_n 1, 1) := by decide +kernel
theorem d_L_next_31 : decode b_L_next 31 = .ok (.iconst 0, 1) := by decide +kernel
theorem d_L_next_32 : decode b_L_next 32 = .ok (.iload_n 2, 1) := by decide +kernel
theorem d_L_next_33 : decode b_L_next 33 = .ok (.aload_n 0, 1) := by decide +kernel
theorem d_L_next_34 : decode b_L_next 34 = .ok (.getfield 21, 3) := by decide +kernel
theorem d_L_next_37 : decode b_L_next 37 = .ok (.getfield 275, 3) := by decide +kernel
theorem d_L_next_40 : decode b_L_next 40 = .ok (.invokestatic 278, 3) := by decide +kernel
theorem d_L_next_43 : decode b_L_next 43 = .ok (.invokestatic 281, 3) := by decide +kernel
theorem d_L_next_46 : decode b_L_next 46 = .ok (.invokevirtual 265, 3) := by decide +kernel
theorem d_L_next_49 : decode b_L_next 49 = .ok (.ireturn, 1) := by decide +kernel
theorem d_L_ahead_0 : decode b_L_ahead 0 = .ok (.iload_n 1, 1) := by decide +kernel
theorem d_L_ahead_1 : decode b_L_ahead 1 = .ok (.iconst 1, 1) := by decide +kernel
theorem d_L_ahead_2 : decode b_L_ahead 2 = .ok (.if_icmp .lt 18, 3) := by decide +kernel
theorem d_L_ahead_5 : decode b_L_ahead 5 = .ok (.iload_n 1, 1) := by decide +kernel
theorem d_L_ahead_6 : decode b_L_ahead 6 = .ok (.bipush 9, 2) := by decide +kernel
theorem d_L_ahead_8 : decode b_L_ahead 8 = .ok (.if_icmp .gt 12, 3) := by decide +kernel
theorem d_L_ahead_11 : decode b_L_ahead 11 = .ok (.iload_n 2, 1) := by decide +kernel
theorem d_L_ahead_12 : decode b_L_ahead 12 = .ok (.ifCond .lt 8, 3) := by decide +kernel
theorem d_L_ahead_15 : decode b_L_ahead 15 = .ok (.iload_n 2, 1) := by decide +kernel
theorem d_L_ahead_16 : decode b_L_ahead 16 = .ok (.iconst 4, 1) := by decide +kernel
theorem d_L_ahead_17 : decode b_L_ahead 17 = .ok (.if_icmp .le 6, 3) := by decide +kernel
theorem d_L_ahead_20 : decode b_L_ahead 20 = .ok (.ldc 159, 2) := by decide +kernel
theorem d_L_ahead_22 : decode b_L_ahead 22 = .ok (.ireturn, 1) := by decide +kernel
theorem d_L_ahead_23 : decode b_L_ahead 23 = .ok (.aload_n 0, 1) := by decide +kernel
theorem d_L_ahead_24 : decode b_L_ahead 24 = .ok (.getfield 32, 3) := by decide +kernel
theorem d_L_ahead_27 : decode b_L_ahead 27 = .ok (.aload_n 0, 1) := by decide +kernel
theorem d_L_ahead_28 : decode b_L_ahead 28 = .ok (.getfield 21, 3) := by decide +kernel
theorem d_L_ahead_31 : decode b_L_ahead 31 = .ok (.invokevirtual 252, 3) := by decide +kernel
theorem d_L_ahead_34 : decode b_L_ahead 34 = .ok (.iconst 0, 1) := by decide +kernel
theorem d_L_ahead_35 : decode b_L_ahead 35 = .ok (.istore_n 3, 1) := by decide +kernel
theorem d_L_ahead_36 : decode b_L_ahead 36 = .ok (.iload_n 3, 1) := by decide +kernel
theorem d_L_ahead_37 : decode b_L_ahead 37 = .ok (.iload_n 1, 1) := by decide +kernel
theorem d_L_ahead_38 : decode b_L_ahead 38 = .ok (.if_icmp .ge 49, 3) := by decide +kernel
theorem d_L_ahead_41 : decode b_L_ahead 41 = .ok (.aload_n 0, 1) := by decide +kernel
theorem d_L_ahead_42 : decode b_L_ahead 42 = .ok (.getfield 32, 3) := by decide +kernel
theorem d_L_ahead_45 : decode b_L_ahead 45 = .ok (.invokevirtual 242, 3) := by decide +kernel
theorem d_L_ahead_48 : decode b_L_ahead 48 = .ok (.ifCond .eq 39, 3) := by decide +kernel
theorem d_L_ahead_51 : decode b_L_ahead 51 = .ok (.aload_n 0, 1) := by decide +kernel
theorem d_L_ahead_52 : decode b_L_ahead 52 = .ok (.getfield 42, 3) := by decide +kernel
theorem d_L_ahead_55 : decode b_L_ahead 55 = .ok (.aload_n 0, 1) := by decide +kernel
theorem d_L_ahead_56 : decode b_L_ahead 56 = .ok (.getfield 32, 3) := by decide +kernel
theorem d_L_ahead_59 : decode b_L_ahead 59 = .ok (.aload_n 0, 1) := by decide +kernel
theorem d_L_ahead_60 : decode b_L_ahead 60 = .ok (.getfield 67, 3) := by decide +kernel
theorem d_L_ahead_63 : decode b_L_ahead 63 = .ok (.invokevirtual 246, 3) := by decide +kernel
theorem d_L_ahead_66 : decode b_L_ahead 66 = .ok (.aload_n 0, 1) := by decide +kernel
theorem d_L_ahead_67 : decode b_L_ahead 67 = .ok (.getfield 42, 3) := by decide +kernel
theorem d_L_ahead_70 : decode b_L_ahead 70 = .ok (.aload_n 0, 1) := by decide +kernel
theorem d_L_ahead_71 : decode b_L_ahead 71 = .ok (.getfield 32, 3) := by decide +kernel
theorem d_L_ahead_74 : decode b_L_ahead 74 = .ok (.aload_n 0, 1) := by decide +kernel
theorem d_L_ahead_75 : decode b_L_ahead 75 = .ok (.getfield 67, 3) := by decide +kernel
theorem d_L_ahead_78 : decode b_L_ahead 78 = .ok (.invokevirtual 227, 3) := by decide +kernel
theorem d_L_ahead_81 : decode b_L_ahead 81 = .ok (.iinc 3 1, 3) := by decide +kernel
theorem d_L_ahead_84 : decode b_L_ahead 84 = .ok (.goto (-48), 3) := by decide +kernel
theorem d_L_ahead_87 : decode b_L_ahead 87 = .ok (.iload_n 2, 1) := by decide +kernel
theorem d_L_ahead_88 : decode b_L_ahead 88 = .ok (.tableswitch 68 0 3 #[32, 34, 46, 58], 32) := by decide +kernel
theorem d_L_ahead_120 : decode b_L_ahead 120 = .ok (.iload_n 3, 1) := by decide +kernel
theorem d_L_ahead_121 : decode b_L_ahead 121 = .ok (.ireturn, 1) := by decide +kernel
theorem d_L_ahead_122 : decode b_L_ahead 122 = .ok (.aload_n 0, 1) := by decide +kernel
theorem d_L_ahead_123 : decode b_L_ahead 123 = .ok (.getfield 32, 3) := by decide +kernel
theorem d_L_ahead_126 : decode b_L_ahead 126 = .ok (.getfield 167, 3) := by decide +kernel
theorem d_L_ahead_129 : decode b_L_ahead 129 = .ok (.iconst 0, 1) := by decide +kernel
theorem d_L_ahead_130 : decode b_L_ahead 130 = .ok (.invokestatic 124, 3) := by decide +kernel
theorem d_L_ahead_133 : decode b_L_ahead 133 = .ok (.ireturn, 1) := by decide +kernel
theorem d_L_ahead_134 : decode b_L_ahead 134 = .ok (.aload_n 0, 1) := by decide +kernel
theorem d_L_ahead_135 : decode b_L_ahead 135 = .ok (.getfield 32, 3) := by decide +kernel
theorem d_L_ahead_138 : decode b_L_ahead 138 = .ok (.getfield 167, 3) := by decide +kernel
theorem d_L_ahead_141 : decode b_L_ahead 141 = .ok (.iconst 1, 1) := by decide +kernel
theorem d_L_ahead_142 : decode b_L_ahead 142 = .ok (.invokestatic 124, 3) := by decide +kernel
theorem d_L_ahead_145 : decode b_L_ahead 145 = .ok (.ireturn, 1) := by decide +kernel
theorem d_L_ahead_146 : decode b_L_ahead 146 = .ok (.aload_n 0, 1) := by decide +kernel
theorem d_L_ahead_147 : decode b_L_ahead 147 = .ok (.getfield 32, 3) := by decide +kernel
theorem d_L_ahead_150 : decode b_L_ahead 150 = .ok (.iconst 0, 1) := by decide +kernel
theorem d_L_ahead_151 : decode b_L_ahead 151 = .ok (.iconst 1, 1) := by decide +kernel
theorem d_L_ahead_152 : decode b_L_ahead 152 = .ok (.invokevirtual 170, 3) := by decide +kernel
theorem d_L_ahead_155 : decode b_L_ahead 155 = .ok (.ireturn, 1) := by decide +kernel
theorem d_L_ahead_156 : decode b_L_ahead 156 = .ok (.aload_n 0, 1) := by decide +kernel
theorem d_L_ahead_157 : decode b_L_ahead 157 = .ok (.getfield 32, 3) := by decide +kernel
theorem d_L_ahead_160 : decode b_L_ahead 160 = .ok (.iconst 1, 1) := by decide +kernel
theorem d_L_ahead_161 : decode b_L_ahead 161 = .ok (.iconst 1, 1) := by decide +kernel
theorem d_L_ahead_162 : decode b_L_ahead 162 = .ok (.invokevirtual 170, 3) := by decide +kernel
theorem d_L_ahead_165 : decode b_L_ahead 165 = .ok (.ireturn, 1) := by decide +kernel
theorem d_L_trace_0 : decode b_L_trace 0 = .ok (.iload_n 1, 1) := by decide +kernel
theorem d_L_trace_1 : decode b_L_trace 1 = .ok (.ifCond .lt 12, 3) := by decide +kernel
theorem d_L_trace_4 : decode b_L_trace 4 = .ok (.iload_n 1, 1) := by decide +kernel
theorem d_L_trace_5 : decode b_L_trace 5 = .ok (.iconst 1, 1) := by decide +kernel
theorem d_L_trace_6 : decode b_L_trace 6 = .ok (.if_icmp .gt 7, 3) := by decide +kernel
theorem d_L_trace_9 : decode b_L_trace 9 = .ok (.iload_n 2, 1) := by decide +kernel
theorem d_L_trace_10 : decode b_L_trace 10 = .ok (.ifCond .ge 5, 3) := by decide +kernel
theorem d_L_trace_13 : decode b_L_trace 13 = .ok (.iconst (-1), 1) := by decide +kernel
theorem d_L_trace_14 : decode b_L_trace 14 = .ok (.ireturn, 1) := by decide +kernel
theorem d_L_trace_15 : decode b_L_trace 15 = .ok (.iload_n 1, 1) := by decide +kernel
theorem d_L_trace_16 : decode b_L_trace 16 = .ok (.ifCond .ne 31, 3) := by decide +kernel
theorem d_L_trace_19 : decode b_L_trace 19 = .ok (.iload_n 2, 1) := by decide +kernel
theorem d_L_trace_20 : decode b_L_trace 20 = .ok (.aload_n 0, 1) := by decide +kernel
theorem d_L_trace_21 : decode b_L_trace 21 = .ok (.getfield 63, 3) := by decide +kernel
theorem d_L_trace_24 : decode b_L_trace 24 = .ok (.getfield 284, 3) := by decide +kernel
theorem d_L_trace_27 : decode b_L_trace 27 = .ok (.if_icmp .ge 17, 3) := by decide +kernel
theorem d_L_trace_30 : decode b_L_trace 30 = .ok (.aload_n 0, 1) := by decide +kernel
theorem d_L_trace_31 : decode b_L_trace 31 = .ok (.getfield 63, 3) := by decide +kernel
theorem d_L_trace_34 : decode b_L_trace 34 = .ok (.getfield 287, 3) := by decide +kernel
theorem d_L_trace_37 : decode b_L_trace 37 = .ok (.iload_n 2, 1) := by decide +kernel
theorem d_L_trace_38 : decode b_L_trace 38 = .ok (.invokestatic 124, 3) := by decide +kernel
theorem d_L_trace_41 : decode b_L_trace 41 = .ok (.goto 5, 3) := by decide +kernel
theorem d_L_trace_44 : decode b_L_trace 44 = .ok (.bipush (-2), 2) := by decide +kernel
theorem d_L_trace_46 : decode b_L_trace 46 = .ok (.ireturn, 1) := by decide +kernel
theorem d_L_trace_47 : decode b_L_trace 47 = .ok (.iload_n 2, 1) := by decide +kernel
theorem d_L_trace_48 : decode b_L_trace 48 = .ok (.aload_n 0, 1) := by decide +kernel
theorem d_L_trace_49 : decode b_L_trace 49 = .ok (.getfield 63, 3) := by decide +kernel
theorem d_L_trace_52 : decode b_L_trace 52 = .ok (.getfield 290, 3) := by decide +kernel
theorem d_L_trace_55 : decode b_L_trace 55 = .ok (.if_icmp .ge 17, 3) := by decide +kernel
theorem d_L_trace_58 : decode b_L_trace 58 = .ok (.aload_n 0, 1) := by decide +kernel
theorem d_L_trace_59 : decode b_L_trace 59 = .ok (.getfield 63, 3) := by decide +kernel
theorem d_L_trace_62 : decode b_L_trace 62 = .ok (.getfield 293, 3) := by decide +kernel
theorem d_L_trace_65 : decode b_L_trace 65 = .ok (.iload_n 2, 1) := by decide +kernel
theorem d_L_trace_66 : decode b_L_trace 66 = .ok (.invokestatic 124, 3) := by decide +kernel
theorem d_L_trace_69 : decode b_L_trace 69 = .ok (.goto 5, 3) := by decide +kernel
theorem d_L_trace_72 : decode b_L_trace 72 = .ok (.bipush (-2), 2) := by decide +kernel
theorem d_L_trace_74 : decode b_L_trace 74 = .ok (.ireturn, 1) := by decide +kernel
theorem d_L_seed_0 : decode b_L_seed 0 = .ok (.aload_n 0, 1) := by decide +kernel
theorem d_L_seed_1 : decode b_L_seed 1 = .ok (.getfield 21, 3) := by decide +kernel
theorem d_L_seed_4 : decode b_L_seed 4 = .ok (.getfield 275, 3) := by decide +kernel
theorem d_L_seed_7 : decode b_L_seed 7 = .ok (.istore_n 2, 1) := by decide +kernel
theorem d_L_seed_8 : decode b_L_seed 8 = .ok (.aload_n 0, 1) := by decide +kernel
theorem d_L_seed_9 : decode b_L_seed 9 = .ok (.getfield 21, 3) := by decide +kernel
theorem d_L_seed_12 : decode b_L_seed 12 = .ok (.iload_n 1, 1) := by decide +kernel
theorem d_L_seed_13 : decode b_L_seed 13 = .ok (.putfield 275, 3) := by decide +kernel
theorem d_L_seed_16 : decode b_L_seed 16 = .ok (.iload_n 2, 1) := by decide +kernel
theorem d_L_seed_17 : decode b_L_seed 17 = .ok (.ireturn, 1) := by decide +kernel
theorem d_L_image_0 : decode b_L_image 0 = .ok (.aload_n 0, 1) := by decide +kernel
theorem d_L_image_1 : decode b_L_image 1 = .ok (.getfield 25, 3) := by decide +kernel
theorem d_L_image_4 : decode b_L_image 4 = .ok (.aload_n 0, 1) := by decide +kernel
theorem d_L_image_5 : decode b_L_image 5 = .ok (.getfield 21, 3) := by decide +kernel
theorem d_L_image_8 : decode b_L_image 8 = .ok (.invokevirtual 252, 3) := by decide +kernel
theorem d_L_image_11 : decode b_L_image 11 = .ok (.aload_n 0, 1) := by decide +kernel
theorem d_L_image_12 : decode b_L_image 12 = .ok (.iconst 1, 1) := by decide +kernel
theorem d_L_image_13 : decode b_L_image 13 = .ok (.putfield 28, 3) := by decide +kernel
theorem d_L_image_16 : decode b_L_image 16 = .ok (.aload_n 0, 1) := by decide +kernel
theorem d_L_image_17 : decode b_L_image 17 = .ok (.getfield 21, 3) := by decide +kernel
theorem d_L_image_20 : decode b_L_image 20 = .ok (.getfield 98, 3) := by decide +kernel
theorem d_L_image_23 : decode b_L_image 23 = .ok (.ireturn, 1) := by decide +kernel
theorem d_L_back_0 : decode b_L_back 0 = .ok (.aload_n 0, 1) := by decide +kernel
theorem d_L_back_1 : decode b_L_back 1 = .ok (.getfield 28, 3) := by decide +kernel
theorem d_L_back_4 : decode b_L_back 4 = .ok (.ifCond .ne 6, 3) := by decide +kernel
theorem d_L_back_7 : decode b_L_back 7 = .ok (.bipush (-5), 2) := by decide +kernel
theorem d_L_back_9 : decode b_L_back 9 = .ok (.ireturn, 1) := by decide +kernel
theorem d_L_back_10 : decode b_L_back 10 = .ok (.aload_n 0, 1) := by decide +kernel
theorem d_L_back_11 : decode b_L_back 11 = .ok (.getfield 21, 3) := by decide +kernel
theorem d_L_back_14 : decode b_L_back 14 = .ok (.aload_n 0, 1) := by decide +kernel
theorem d_L_back_15 : decode b_L_back 15 = .ok (.getfield 25, 3) := by decide +kernel
theorem d_L_back_18 : decode b_L_back 18 = .ok (.invokevirtual 252, 3) := by decide +kernel
theorem d_L_back_21 : decode b_L_back 21 = .ok (.iconst 0, 1) := by decide +kernel
theorem d_L_back_22 : decode b_L_back 22 = .ok (.istore_n 1, 1) := by decide +kernel
theorem d_L_back_23 : decode b_L_back 23 = .ok (.iload_n 1, 1) := by decide +kernel
theorem d_L_back_24 : decode b_L_back 24 = .ok (.aload_n 0, 1) := by decide +kernel
theorem d_L_back_25 : decode b_L_back 25 = .ok (.getfield 77, 3) := by decide +kernel
theorem d_L_back_28 : decode b_L_back 28 = .ok (.arraylength, 1) := by decide +kernel
theorem d_L_back_29 : decode b_L_back 29 = .ok (.if_icmp .ge 33, 3) := by decide +kernel
theorem d_L_back_32 : decode b_L_back 32 = .ok (.aload_n 0, 1) := by decide +kernel
theorem d_L_back_33 : decode b_L_back 33 = .ok (.getfield 21, 3) := by decide +kernel
theorem d_L_back_36 : decode b_L_back 36 = .ok (.aload_n 0, 1) := by decide +kernel
theorem d_L_back_37 : decode b_L_back 37 = .ok (.getfield 77, 3) := by decide +kernel
theorem d_L_back_40 : decode b_L_back 40 = .ok (.iload_n 1, 1) := by decide +kernel
theorem d_L_back_41 : decode b_L_back 41 = .ok (.iaload, 1) := by decide +kernel
theorem d_L_back_42 : decode b_L_back 42 = .ok (.invokevirtual 137, 3) := by decide +kernel
theorem d_L_back_45 : decode b_L_back 45 = .ok (.ifCond .ne 11, 3) := by decide +kernel
theorem d_L_back_48 : decode b_L_back 48 = .ok (.aload_n 0, 1) := by decide +kernel
theorem d_L_back_49 : decode b_L_back 49 = .ok (.getfield 77, 3) := by decide +kernel
theorem d_L_back_52 : decode b_L_back 52 = .ok (.iload_n 1, 1) := by decide +kernel
theorem d_L_back_53 : decode b_L_back 53 = .ok (.bipush (-2), 2) := by decide +kernel
theorem d_L_back_55 : decode b_L_back 55 = .ok (.iastore, 1) := by decide +kernel
theorem d_L_back_56 : decode b_L_back 56 = .ok (.iinc 1 1, 3) := by decide +kernel
theorem d_L_back_59 : decode b_L_back 59 = .ok (.goto (-36), 3) := by decide +kernel
theorem d_L_back_62 : decode b_L_back 62 = .ok (.aload_n 0, 1) := by decide +kernel
theorem d_L_back_63 : decode b_L_back 63 = .ok (.getfield 21, 3) := by decide +kernel
theorem d_L_back_66 : decode b_L_back 66 = .ok (.getfield 98, 3) := by decide +kernel
theorem d_L_back_69 : decode b_L_back 69 = .ok (.ireturn, 1) := by decide +kernel
theorem d_L_hold_0 : decode b_L_hold 0 = .ok (.iload_n 1, 1) := by decide +kernel
theorem d_L_hold_1 : decode b_L_hold 1 = .ok (.ifCond .lt 25, 3) := by decide +kernel
theorem d_L_hold_4 : decode b_L_hold 4 = .ok (.iload_n 1, 1) := by decide +kernel
theorem d_L_hold_5 : decode b_L_hold 5 = .ok (.bipush 8, 2) := by decide +kernel
theorem d_L_hold_7 : decode b_L_hold 7 = .ok (.if_icmp .ge 19, 3) := by decide +kernel
theorem d_L_hold_10 : decode b_L_hold 10 = .ok (.iload_n 2, 1) := by decide +kernel
theorem d_L_hold_11 : decode b_L_hold 11 = .ok (.iconst (-1), 1) := by decide +kernel
theorem d_L_hold_12 : decode b_L_hold 12 = .ok (.if_icmp .eq 16, 3) := by decide +kernel
theorem d_L_hold_15 : decode b_L_hold 15 = .ok (.aload_n 0, 1) := by decide +kernel
theorem d_L_hold_16 : decode b_L_hold 16 = .ok (.getfield 21, 3) := by decide +kernel
theorem d_L_hold_19 : decode b_L_hold 19 = .ok (.iload_n 2, 1) := by decide +kernel
theorem d_L_hold_20 : decode b_L_hold 20 = .ok (.invokevirtual 137, 3) := by decide +kernel
theorem d_L_hold_23 : decode b_L_hold 23 = .ok (.ifCond .ne 5, 3) := by decide +kernel
theorem d_L_hold_26 : decode b_L_hold 26 = .ok (.iconst (-1), 1) := by decide +kernel
theorem d_L_hold_27 : decode b_L_hold 27 = .ok (.ireturn, 1) := by decide +kernel
theorem d_L_hold_28 : decode b_L_hold 28 = .ok (.aload_n 0, 1) := by decide +kernel
theorem d_L_hold_29 : decode b_L_hold 29 = .ok (.getfield 77, 3) := by decide +kernel
theorem d_L_hold_32 : decode b_L_hold 32 = .ok (.iload_n 1, 1) := by decide +kernel
theorem d_L_hold_33 : decode b_L_hold 33 = .ok (.iload_n 2, 1) := by decide +kernel
theorem d_L_hold_34 : decode b_L_hold 34 = .ok (.invokestatic 163, 3) := by decide +kernel
theorem d_L_hold_37 : decode b_L_hold 37 = .ok (.iconst 1, 1) := by decide +kernel
theorem d_L_hold_38 : decode b_L_hold 38 = .ok (.ireturn, 1) := by decide +kernel
theorem d_L_tells_0 : decode b_L_tells 0 = .ok (.iload_n 1, 1) := by decide +kernel
theorem d_L_tells_1 : decode b_L_tells 1 = .ok (.ifCond .lt 18, 3) := by decide +kernel
theorem d_L_tells_4 : decode b_L_tells 4 = .ok (.iload_n 1, 1) := by decide +kernel
theorem d_L_tells_5 : decode b_L_tells 5 = .ok (.bipush 8, 2) := by decide +kernel
theorem d_L_tells_7 : decode b_L_tells 7 = .ok (.if_icmp .ge 12, 3) := by decide +kernel
theorem d_L_tells_10 : decode b_L_tells 10 = .ok (.iload_n 2, 1) := by decide +kernel
theorem d_L_tells_11 : decode b_L_tells 11 = .ok (.ifCond .lt 8, 3) := by decide +kernel
theorem d_L_tells_14 : decode b_L_tells 14 = .ok (.iload_n 2, 1) := by decide +kernel
theorem d_L_tells_15 : decode b_L_tells 15 = .ok (.iconst 4, 1) := by decide +kernel
theorem d_L_tells_16 : decode b_L_tells 16 = .ok (.if_icmp .le 5, 3) := by decide +kernel
theorem d_L_tells_19 : decode b_L_tells 19 = .ok (.iconst (-1), 1) := by decide +kernel
theorem d_L_tells_20 : decode b_L_tells 20 = .ok (.ireturn, 1) := by decide +kernel
theorem d_L_tells_21 : decode b_L_tells 21 = .ok (.aload_n 0, 1) := by decide +kernel
theorem d_L_tells_22 : decode b_L_tells 22 = .ok (.getfield 77, 3) := by decide +kernel
theorem d_L_tells_25 : decode b_L_tells 25 = .ok (.iload_n 1, 1) := by decide +kernel
theorem d_L_tells_26 : decode b_L_tells 26 = .ok (.invokestatic 124, 3) := by decide +kernel
theorem d_L_tells_29 : decode b_L_tells 29 = .ok (.istore_n 3, 1) := by decide +kernel
theorem d_L_tells_30 : decode b_L_tells 30 = .ok (.aload_n 0, 1) := by decide +kernel
theorem d_L_tells_31 : decode b_L_tells 31 = .ok (.getfield 21, 3) := by decide +kernel
theorem d_L_tells_34 : decode b_L_tells 34 = .ok (.iload_n 3, 1) := by decide +kernel
theorem d_L_tells_35 : decode b_L_tells 35 = .ok (.invokevirtual 137, 3) := by decide +kernel
theorem d_L_tells_38 : decode b_L_tells 38 = .ok (.ifCond .ne 6, 3) := by decide +kernel
theorem d_L_tells_41 : decode b_L_tells 41 = .ok (.bipush (-11), 2) := by decide +kernel
theorem d_L_tells_43 : decode b_L_tells 43 = .ok (.ireturn, 1) := by decide +kernel
theorem d_L_tells_44 : decode b_L_tells 44 = .ok (.aload_n 0, 1) := by decide +kernel
theorem d_L_tells_45 : decode b_L_tells 45 = .ok (.getfield 10, 3) := by decide +kernel
theorem d_L_tells_48 : decode b_L_tells 48 = .ok (.getfield 140, 3) := by decide +kernel
theorem d_L_tells_51 : decode b_L_tells 51 = .ok (.iload_n 3, 1) := by decide +kernel
theorem d_L_tells_52 : decode b_L_tells 52 = .ok (.invokestatic 124, 3) := by decide +kernel
theorem d_L_tells_55 : decode b_L_tells 55 = .ok (.istore 4, 2) := by decide +kernel
theorem d_L_tells_57 : decode b_L_tells 57 = .ok (.iload_n 2, 1) := by decide +kernel
theorem d_L_tells_58 : decode b_L_tells 58 = .ok (.ifCond .ne 9, 3) := by decide +kernel
theorem d_L_tells_61 : decode b_L_tells 61 = .ok (.bipush 100, 2) := by decide +kernel
theorem d_L_tells_63 : decode b_L_tells 63 = .ok (.iload 4, 2) := by decide +kernel
theorem d_L_tells_65 : decode b_L_tells 65 = .ok (.iadd, 1) := by decide +kernel
theorem d_L_tells_66 : decode b_L_tells 66 = .ok (.ireturn, 1) := by decide +kernel
theorem d_L_tells_67 : decode b_L_tells 67 = .ok (.iload_n 2, 1) := by decide +kernel
theorem d_L_tells_68 : decode b_L_tells 68 = .ok (.iload 4, 2) := by decide +kernel
theorem d_L_tells_70 : decode b_L_tells 70 = .ok (.invokestatic 193, 3) := by decide +kernel
theorem d_L_tells_73 : decode b_L_tells 73 = .ok (.if_icmp .eq 6, 3) := by decide +kernel
theorem d_L_tells_76 : decode b_L_tells 76 = .ok (.bipush (-12), 2) := by decide +kernel
theorem d_L_tells_78 : decode b_L_tells 78 = .ok (.ireturn, 1) := by decide +kernel
theorem d_L_tells_79 : decode b_L_tells 79 = .ok (.aload_n 0, 1) := by decide +kernel
theorem d_L_tells_80 : decode b_L_tells 80 = .ok (.getfield 10, 3) := by decide +kernel
theorem d_L_tells_83 : decode b_L_tells 83 = .ok (.getfield 148, 3) := by decide +kernel
theorem d_L_tells_86 : decode b_L_tells 86 = .ok (.iload_n 3, 1) := by decide +kernel
theorem d_L_tells_87 : decode b_L_tells 87 = .ok (.invokestatic 124, 3) := by decide +kernel
theorem d_L_tells_90 : decode b_L_tells 90 = .ok (.istore 5, 2) := by decide +kernel
theorem d_L_tells_92 : decode b_L_tells 92 = .ok (.iload_n 2, 1) := by decide +kernel
theorem d_L_tells_93 : decode b_L_tells 93 = .ok (.tableswitch 61 1 3 #[27, 42, 55], 27) := by decide +kernel
theorem d_L_tells_120 : decode b_L_tells 120 = .ok (.bipush 100, 2) := by decide +kernel
theorem d_L_tells_122 : decode b_L_tells 122 = .ok (.iload 4, 2) := by decide +kernel
theorem d_L_tells_124 : decode b_L_tells 124 = .ok (.iload 5, 2) := by decide +kernel
theorem d_L_tells_126 : decode b_L_tells 126 = .ok (.bipush 10, 2) := by decide +kernel
theorem d_L_tells_128 : decode b_L_tells 128 = .ok (.bipush 20, 2) := by decide +kernel
theorem d_L_tells_130 : decode b_L_tells 130 = .ok (.invokestatic 296, 3) := by decide +kernel
theorem d_L_tells_133 : decode b_L_tells 133 = .ok (.iadd, 1) := by decide +kernel
theorem d_L_tells_134 : decode b_L_tells 134 = .ok (.ireturn, 1) := by decide +kernel
theorem d_L_tells_135 : decode b_L_tells 135 = .ok (.bipush 100, 2) := by decide +kernel
theorem d_L_tells_137 : decode b_L_tells 137 = .ok (.iload 4, 2) := by decide +kernel
theorem d_L_tells_139 : decode b_L_tells 139 = .ok (.iload 5, 2) := by decide +kernel
theorem d_L_tells_141 : decode b_L_tells 141 = .ok (.bipush 10, 2) := by decide +kernel
theorem d_L_tells_143 : decode b_L_tells 143 = .ok (.invokestatic 299, 3) := by decide +kernel
theorem d_L_tells_146 : decode b_L_tells 146 = .ok (.iadd, 1) := by decide +kernel
theorem d_L_tells_147 : decode b_L_tells 147 = .ok (.ireturn, 1) := by decide +kernel
theorem d_L_tells_148 : decode b_L_tells 148 = .ok (.bipush 100, 2) := by decide +kernel
theorem d_L_tells_150 : decode b_L_tells 150 = .ok (.iload 5, 2) := by decide +kernel
theorem d_L_tells_152 : decode b_L_tells 152 = .ok (.iadd, 1) := by decide +kernel
theorem d_L_tells_153 : decode b_L_tells 153 = .ok (.ireturn, 1) := by decide +kernel
theorem d_L_tells_154 : decode b_L_tells 154 = .ok (.bipush 100, 2) := by decide +kernel
theorem d_L_tells_156 : decode b_L_tells 156 = .ok (.aload_n 0, 1) := by decide +kernel
theorem d_L_tells_157 : decode b_L_tells 157 = .ok (.getfield 10, 3) := by decide +kernel
theorem d_L_tells_160 : decode b_L_tells 160 = .ok (.getfield 142, 3) := by decide +kernel
theorem d_L_tells_163 : decode b_L_tells 163 = .ok (.iload_n 3, 1) := by decide +kernel
theorem d_L_tells_164 : decode b_L_tells 164 = .ok (.invokestatic 124, 3) := by decide +kernel
theorem d_L_tells_167 : decode b_L_tells 167 = .ok (.iconst 4, 1) := by decide +kernel
theorem d_L_tells_168 : decode b_L_tells 168 = .ok (.imul, 1) := by decide +kernel
theorem d_L_tells_169 : decode b_L_tells 169 = .ok (.iadd, 1) := by decide +kernel
theorem d_L_tells_170 : decode b_L_tells 170 = .ok (.aload_n 0, 1) := by decide +kernel
theorem d_L_tells_171 : decode b_L_tells 171 = .ok (.getfield 10, 3) := by decide +kernel
theorem d_L_tells_174 : decode b_L_tells 174 = .ok (.getfield 145, 3) := by decide +kernel
theorem d_L_tells_177 : decode b_L_tells 177 = .ok (.iload_n 3, 1) := by decide +kernel
theorem d_L_tells_178 : decode b_L_tells 178 = .ok (.invokestatic 124, 3) := by decide +kernel
theorem d_L_tells_181 : decode b_L_tells 181 = .ok (.iadd, 1) := by decide +kernel
theorem d_L_tells_182 : decode b_L_tells 182 = .ok (.ireturn, 1) := by decide +kernel
theorem d_L_count_0 : decode b_L_count 0 = .ok (.iload_n 1, 1) := by decide +kernel
theorem d_L_count_1 : decode b_L_count 1 = .ok (.tableswitch 135 0 8 #[51, 59, 67, 75, 95, 103, 111, 119, 127], 51) := by decide +kernel
theorem d_L_count_52 : decode b_L_count 52 = .ok (.aload_n 0, 1) := by decide +kernel
theorem d_L_count_53 : decode b_L_count 53 = .ok (.getfield 21, 3) := by decide +kernel
theorem d_L_count_56 : decode b_L_count 56 = .ok (.getfield 98, 3) := by decide +kernel
theorem d_L_count_59 : decode b_L_count 59 = .ok (.ireturn, 1) := by decide +kernel
theorem d_L_count_60 : decode b_L_count 60 = .ok (.aload_n 0, 1) := by decide +kernel
theorem d_L_count_61 : decode b_L_count 61 = .ok (.getfield 21, 3) := by decide +kernel
theorem d_L_count_64 : decode b_L_count 64 = .ok (.getfield 211, 3) := by decide +kernel
theorem d_L_count_67 : decode b_L_count 67 = .ok (.ireturn, 1) := by decide +kernel
theorem d_L_count_68 : decode b_L_count 68 = .ok (.aload_n 0, 1) := by decide +kernel
theorem d_L_count_69 : decode b_L_count 69 = .ok (.getfield 21, 3) := by decide +kernel
theorem d_L_count_72 : decode b_L_count 72 = .ok (.getfield 302, 3) := by decide +kernel
theorem d_L_count_75 : decode b_L_count 75 = .ok (.ireturn, 1) := by decide +kernel
theorem d_L_count_76 : decode b_L_count 76 = .ok (.aload_n 0, 1) := by decide +kernel
theorem d_L_count_77 : decode b_L_count 77 = .ok (.getfield 21, 3) := by decide +kernel
theorem d_L_count_80 : decode b_L_count 80 = .ok (.iconst 0, 1) := by decide +kernel
theorem d_L_count_81 : decode b_L_count 81 = .ok (.iconst 4, 1) := by decide +kernel
theorem d_L_count_82 : decode b_L_count 82 = .ok (.invokevirtual 170, 3) := by decide +kernel
theorem d_L_count_85 : decode b_L_count 85 = .ok (.aload_n 0, 1) := by decide +kernel
theorem d_L_count_86 : decode b_L_count 86 = .ok (.getfield 21, 3) := by decide +kernel
theorem d_L_count_89 : decode b_L_count 89 = .ok (.iconst 1, 1) := by decide +kernel
theorem d_L_count_90 : decode b_L_count 90 = .ok (.iconst 4, 1) := by decide +kernel
theorem d_L_count_91 : decode b_L_count 91 = .ok (.invokevirtual 170, 3) := by decide +kernel
theorem d_L_count_94 : decode b_L_count 94 = .ok (.iadd, 1) := by decide +kernel
theorem d_L_count_95 : decode b_L_count 95 = .ok (.ireturn, 1) := by decide +kernel
theorem d_L_count_96 : decode b_L_count 96 = .ok (.aload_n 0, 1) := by decide +kernel
theorem d_L_count_97 : decode b_L_count 97 = .ok (.getfield 73, 3) := by decide +kernel
theorem d_L_count_100 : decode b_L_count 100 = .ok (.getfield 108, 3) := by decide +kernel
theorem d_L_count_103 : decode b_L_count 103 = .ok (.ireturn, 1) := by decide +kernel
theorem d_L_count_104 : decode b_L_count 104 = .ok (.aload_n 0, 1) := by decide +kernel
theorem d_L_count_105 : decode b_L_count 105 = .ok (.getfield 21, 3) := by decide +kernel
theorem d_L_count_108 : decode b_L_count 108 = .ok (.getfield 305, 3) := by decide +kernel
theorem d_L_count_111 : decode b_L_count 111 = .ok (.ireturn, 1) := by decide +kernel
theorem d_L_count_112 : decode b_L_count 112 = .ok (.aload_n 0, 1) := by decide +kernel
theorem d_L_count_113 : decode b_L_count 113 = .ok (.getfield 21, 3) := by decide +kernel
theorem d_L_count_116 : decode b_L_count 116 = .ok (.getfield 308, 3) := by decide +kernel
theorem d_L_count_119 : decode b_L_count 119 = .ok (.ireturn, 1) := by decide +kernel
theorem d_L_count_120 : decode b_L_count 120 = .ok (.aload_n 0, 1) := by decide +kernel
theorem d_L_count_121 : decode b_L_count 121 = .ok (.getfield 21, 3) := by decide +kernel
theorem d_L_count_124 : decode b_L_count 124 = .ok (.getfield 249, 3) := by decide +kernel
theorem d_L_count_127 : decode b_L_count 127 = .ok (.ireturn, 1) := by decide +kernel
theorem d_L_count_128 : decode b_L_count 128 = .ok (.aload_n 0, 1) := by decide +kernel
theorem d_L_count_129 : decode b_L_count 129 = .ok (.getfield 21, 3) := by decide +kernel
theorem d_L_count_132 : decode b_L_count 132 = .ok (.invokevirtual 311, 3) := by decide +kernel
theorem d_L_count_135 : decode b_L_count 135 = .ok (.ireturn, 1) := by decide +kernel
theorem d_L_count_136 : decode b_L_count 136 = .ok (.iconst (-1), 1) := by decide +kernel
theorem d_L_count_137 : decode b_L_count 137 = .ok (.ireturn, 1) := by decide +kernel
theorem d_L_at_0 : decode b_L_at 0 = .ok (.iload_n 1, 1) := by decide +kernel
theorem d_L_at_1 : decode b_L_at 1 = .ok (.ifCond .lt 15, 3) := by decide +kernel
theorem d_L_at_4 : decode b_L_at 4 = .ok (.iload_n 1, 1) := by decide +kernel
theorem d_L_at_5 : decode b_L_at 5 = .ok (.aload_n 0, 1) := by decide +kernel
theorem d_L_at_6 : decode b_L_at 6 = .ok (.arraylength, 1) := by decide +kernel
theorem d_L_at_7 : decode b_L_at 7 = .ok (.if_icmp .ge 9, 3) := by decide +kernel
theorem d_L_at_10 : decode b_L_at 10 = .ok (.aload_n 0, 1) := by decide +kernel
theorem d_L_at_11 : decode b_L_at 11 = .ok (.iload_n 1, 1) := by decide +kernel
theorem d_L_at_12 : decode b_L_at 12 = .ok (.iaload, 1) := by decide +kernel
theorem d_L_at_13 : decode b_L_at 13 = .ok (.goto 4, 3) := by decide +kernel
theorem d_L_at_16 : decode b_L_at 16 = .ok (.iconst 0, 1) := by decide +kernel
theorem d_L_at_17 : decode b_L_at 17 = .ok (.ireturn, 1) := by decide +kernel
theorem d_L_put_0 : decode b_L_put 0 = .ok (.iload_n 1, 1) := by decide +kernel
theorem d_L_put_1 : decode b_L_put 1 = .ok (.ifCond .lt 13, 3) := by decide +kernel
theorem d_L_put_4 : decode b_L_put 4 = .ok (.iload_n 1, 1) := by decide +kernel
theorem d_L_put_5 : decode b_L_put 5 = .ok (.aload_n 0, 1) := by decide +kernel
theorem d_L_put_6 : decode b_L_put 6 = .ok (.arraylength, 1) := by decide +kernel
theorem d_L_put_7 : decode b_L_put 7 = .ok (.if_icmp .ge 7, 3) := by decide +kernel
theorem d_L_put_10 : decode b_L_put 10 = .ok (.aload_n 0, 1) := by decide +kernel
theorem d_L_put_11 : decode b_L_put 11 = .ok (.iload_n 1, 1) := by decide +kernel
theorem d_L_put_12 : decode b_L_put 12 = .ok (.iload_n 2, 1) := by decide +kernel
theorem d_L_put_13 : decode b_L_put 13 = .ok (.iastore, 1) := by decide +kernel
theorem d_L_put_14 : decode b_L_put 14 = .ok (.return_, 1) := by decide +kernel
theorem d_L_copyRow_0 : decode b_L_copyRow 0 = .ok (.aload_n 0, 1) := by decide +kernel
theorem d_L_copyRow_1 : decode b_L_copyRow 1 = .ok (.iconst 0, 1) := by decide +kernel
theorem d_L_copyRow_2 : decode b_L_copyRow 2 = .ok (.aload_n 1, 1) := by decide +kernel
theorem d_L_copyRow_3 : decode b_L_copyRow 3 = .ok (.iconst 0, 1) := by decide +kernel
theorem d_L_copyRow_4 : decode b_L_copyRow 4 = .ok (.aload_n 0, 1) := by decide +kernel
theorem d_L_copyRow_5 : decode b_L_copyRow 5 = .ok (.arraylength, 1) := by decide +kernel
theorem d_L_copyRow_6 : decode b_L_copyRow 6 = .ok (.aload_n 1, 1) := by decide +kernel
theorem d_L_copyRow_7 : decode b_L_copyRow 7 = .ok (.arraylength, 1) := by decide +kernel
theorem d_L_copyRow_8 : decode b_L_copyRow 8 = .ok (.invokestatic 314, 3) := by decide +kernel
theorem d_L_copyRow_11 : decode b_L_copyRow 11 = .ok (.invokestatic 319, 3) := by decide +kernel
theorem d_L_copyRow_14 : decode b_L_copyRow 14 = .ok (.return_, 1) := by decide +kernel
theorem d_L_within_0 : decode b_L_within 0 = .ok (.iload_n 0, 1) := by decide +kernel
theorem d_L_within_1 : decode b_L_within 1 = .ok (.iload_n 1, 1) := by decide +kernel
theorem d_L_within_2 : decode b_L_within 2 = .ok (.if_icmp .ge 5, 3) := by decide +kernel
theorem d_L_within_5 : decode b_L_within 5 = .ok (.iload_n 1, 1) := by decide +kernel
theorem d_L_within_6 : decode b_L_within 6 = .ok (.ireturn, 1) := by decide +kernel
theorem d_L_within_7 : decode b_L_within 7 = .ok (.iload_n 0, 1) := by decide +kernel
theorem d_L_within_8 : decode b_L_within 8 = .ok (.iload_n 2, 1) := by decide +kernel
theorem d_L_within_9 : decode b_L_within 9 = .ok (.if_icmp .le 7, 3) := by decide +kernel
theorem d_L_within_12 : decode b_L_within 12 = .ok (.iload_n 2, 1) := by decide +kernel
theorem d_L_within_13 : decode b_L_within 13 = .ok (.goto 4, 3) := by decide +kernel
theorem d_L_within_16 : decode b_L_within 16 = .ok (.iload_n 0, 1) := by decide +kernel
theorem d_L_within_17 : decode b_L_within 17 = .ok (.ireturn, 1) := by decide +kernel
theorem d_L_isPlayer_0 : decode b_L_isPlayer 0 = .ok (.iload_n 0, 1) := by decide +kernel
theorem d_L_isPlayer_1 : decode b_L_isPlayer 1 = .ok (.ifCond .eq 8, 3) := by decide +kernel
theorem d_L_isPlayer_4 : decode b_L_isPlayer 4 = .ok (.iload_n 0, 1) := by decide +kernel
theorem d_L_isPlayer_5 : decode b_L_isPlayer 5 = .ok (.iconst 1, 1) := by decide +kernel
theorem d_L_isPlayer_6 : decode b_L_isPlayer 6 = .ok (.if_icmp .ne 7, 3) := by decide +kernel
theorem d_L_isPlayer_9 : decode b_L_isPlayer 9 = .ok (.iconst 1, 1) := by decide +kernel
theorem d_L_isPlayer_10 : decode b_L_isPlayer 10 = .ok (.goto 4, 3) := by decide +kernel
theorem d_L_isPlayer_13 : decode b_L_isPlayer 13 = .ok (.iconst 0, 1) := by decide +kernel
theorem d_L_isPlayer_14 : decode b_L_isPlayer 14 = .ok (.ireturn, 1) := by decide +kernel
theorem d_L_isPair_0 : decode b_L_isPair 0 = .ok (.iload_n 0, 1) := by decide +kernel
theorem d_L_isPair_1 : decode b_L_isPair 1 = .ok (.ifCond .lt 23, 3) := by decide +kernel
theorem d_L_isPair_4 : decode b_L_isPair 4 = .ok (.iload_n 0, 1) := by decide +kernel
theorem d_L_isPair_5 : decode b_L_isPair 5 = .ok (.bipush 10, 2) := by decide +kernel
theorem d_L_isPair_7 : decode b_L_isPair 7 = .ok (.idiv, 1) := by decide +kernel
theorem d_L_isPair_8 : decode b_L_isPair 8 = .ok (.iconst 3, 1) := by decide +kernel
theorem d_L_isPair_9 : decode b_L_isPair 9 = .ok (.if_icmp .gt 15, 3) := by decide +kernel
theorem d_L_isPair_12 : decode b_L_isPair 12 = .ok (.iload_n 0, 1) := by decide +kernel
theorem d_L_isPair_13 : decode b_L_isPair 13 = .ok (.bipush 10, 2) := by decide +kernel
theorem d_L_isPair_15 : decode b_L_isPair 15 = .ok (.irem, 1) := by decide +kernel
theorem d_L_isPair_16 : decode b_L_isPair 16 = .ok (.iconst 3, 1) := by decide +kernel
theorem d_L_isPair_17 : decode b_L_isPair 17 = .ok (.if_icmp .gt 7, 3) := by decide +kernel
theorem d_L_isPair_20 : decode b_L_isPair 20 = .ok (.iconst 1, 1) := by decide +kernel
theorem d_L_isPair_21 : decode b_L_isPair 21 = .ok (.goto 4, 3) := by decide +kernel
theorem d_L_isPair_24 : decode b_L_isPair 24 = .ok (.iconst 0, 1) := by decide +kernel
theorem d_L_isPair_25 : decode b_L_isPair 25 = .ok (.ireturn, 1) := by decide +kernel
theorem d_L_familyOf_0 : decode b_L_familyOf 0 = .ok (.iload_n 0, 1) := by decide +kernel
theorem d_L_familyOf_1 : decode b_L_familyOf 1 = .ok (.iconst 4, 1) := by decide +kernel
theorem d_L_familyOf_2 : decode b_L_familyOf 2 = .ok (.if_icmp .gt 5, 3) := by decide +kernel
theorem d_L_familyOf_5 : decode b_L_familyOf 5 = .ok (.iconst 1, 1) := by decide +kernel
theorem d_L_familyOf_6 : decode b_L_familyOf 6 = .ok (.ireturn, 1) := by decide +kernel
theorem d_L_familyOf_7 : decode b_L_familyOf 7 = .ok (.iload_n 0, 1) := by decide +kernel
theorem d_L_familyOf_8 : decode b_L_familyOf 8 = .ok (.bipush 8, 2) := by decide +kernel
theorem d_L_familyOf_10 : decode b_L_familyOf 10 = .ok (.if_icmp .gt 5, 3) := by decide +kernel
theorem d_L_familyOf_13 : decode b_L_familyOf 13 = .ok (.iconst 2, 1) := by decide +kernel
theorem d_L_familyOf_14 : decode b_L_familyOf 14 = .ok (.ireturn, 1) := by decide +kernel
theorem d_L_familyOf_15 : decode b_L_familyOf 15 = .ok (.iload_n 0, 1) := by decide +kernel
theorem d_L_familyOf_16 : decode b_L_familyOf 16 = .ok (.bipush 13, 2) := by decide +kernel
theorem d_L_familyOf_18 : decode b_L_familyOf 18 = .ok (.if_icmp .gt 7, 3) := by decide +kernel
theorem d_L_familyOf_21 : decode b_L_familyOf 21 = .ok (.iconst 3, 1) := by decide +kernel
theorem d_L_familyOf_22 : decode b_L_familyOf 22 = .ok (.goto 4, 3) := by decide +kernel
theorem d_L_familyOf_25 : decode b_L_familyOf 25 = .ok (.iconst 4, 1) := by decide +kernel
theorem d_L_familyOf_26 : decode b_L_familyOf 26 = .ok (.ireturn, 1) := by decide +kernel
theorem d_L_looksAtOther_0 : decode b_L_looksAtOther 0 = .ok (.iload_n 0, 1) := by decide +kernel
theorem d_L_looksAtOther_1 : decode b_L_looksAtOther 1 = .ok (.iconst 3, 1) := by decide +kernel
theorem d_L_looksAtOther_2 : decode b_L_looksAtOther 2 = .ok (.if_icmp .eq 8, 3) := by decide +kernel
theorem d_L_looksAtOther_5 : decode b_L_looksAtOther 5 = .ok (.iload_n 0, 1) := by decide +kernel
theorem d_L_looksAtOther_6 : decode b_L_looksAtOther 6 = .ok (.iconst 4, 1) := by decide +kernel
theorem d_L_looksAtOther_7 : decode b_L_looksAtOther 7 = .ok (.if_icmp .ne 7, 3) := by decide +kernel
theorem d_L_looksAtOther_10 : decode b_L_looksAtOther 10 = .ok (.iconst 1, 1) := by decide +kernel
theorem d_L_looksAtOther_11 : decode b_L_looksAtOther 11 = .ok (.goto 4, 3) := by decide +kernel
theorem d_L_looksAtOther_14 : decode b_L_looksAtOther 14 = .ok (.iconst 0, 1) := by decide +kernel
theorem d_L_looksAtOther_15 : decode b_L_looksAtOther 15 = .ok (.ireturn, 1) := by decide +kernel
theorem d_L_layered_0 : decode b_L_layered 0 = .ok (.iload_n 0, 1) := by decide +kernel
theorem d_L_layered_1 : decode b_L_layered 1 = .ok (.tableswitch 57 0 3 #[31, 42, 53, 55], 31) := by decide +kernel
theorem d_L_layered_32 : decode b_L_layered 32 = .ok (.iload_n 2, 1) := by decide +kernel
theorem d_L_layered_33 : decode b_L_layered 33 = .ok (.iload_n 1, 1) := by decide +kernel
theorem d_L_layered_34 : decode b_L_layered 34 = .ok (.iadd, 1) := by decide +kernel
theorem d_L_layered_35 : decode b_L_layered 35 = .ok (.bipush (-99), 2) := by decide +kernel
theorem d_L_layered_37 : decode b_L_layered 37 = .ok (.bipush 99, 2) := by decide +kernel
theorem d_L_layered_39 : decode b_L_layered 39 = .ok (.invokestatic 325, 3) := by decide +kernel
theorem d_L_layered_42 : decode b_L_layered 42 = .ok (.ireturn, 1) := by decide +kernel
theorem d_L_layered_43 : decode b_L_layered 43 = .ok (.iload_n 2, 1) := by decide +kernel
theorem d_L_layered_44 : decode b_L_layered 44 = .ok (.iload_n 1, 1) := by decide +kernel
theorem d_L_layered_45 : decode b_L_layered 45 = .ok (.imul, 1) := by decide +kernel
theorem d_L_layered_46 : decode b_L_layered 46 = .ok (.bipush (-99), 2) := by decide +kernel
theorem d_L_layered_48 : decode b_L_layered 48 = .ok (.bipush 99, 2) := by decide +kernel
theorem d_L_layered_50 : decode b_L_layered 50 = .ok (.invokestatic 325, 3) := by decide +kernel
theorem d_L_layered_53 : decode b_L_layered 53 = .ok (.ireturn, 1) := by decide +kernel
theorem d_L_layered_54 : decode b_L_layered 54 = .ok (.iload_n 1, 1) := by decide +kernel
theorem d_L_layered_55 : decode b_L_layered 55 = .ok (.ireturn, 1) := by decide +kernel
theorem d_L_layered_56 : decode b_L_layered 56 = .ok (.iload_n 3, 1) := by decide +kernel
theorem d_L_layered_57 : decode b_L_layered 57 = .ok (.ireturn, 1) := by decide +kernel
theorem d_L_layered_58 : decode b_L_layered 58 = .ok (.iload_n 2, 1) := by decide +kernel
theorem d_L_layered_59 : decode b_L_layered 59 = .ok (.iload_n 3, 1) := by decide +kernel
theorem d_L_layered_60 : decode b_L_layered 60 = .ok (.iadd, 1) := by decide +kernel
theorem d_L_layered_61 : decode b_L_layered 61 = .ok (.bipush (-99), 2) := by decide +kernel
theorem d_L_layered_63 : decode b_L_layered 63 = .ok (.bipush 99, 2) := by decide +kernel
theorem d_L_layered_65 : decode b_L_layered 65 = .ok (.invokestatic 325, 3) := by decide +kernel
theorem d_L_layered_68 : decode b_L_layered 68 = .ok (.ireturn, 1) := by decide +kernel
theorem d_L_replacedAmount_0 : decode b_L_replacedAmount 0 = .ok (.iload_n 0, 1) := by decide +kernel
theorem d_L_replacedAmount_1 : decode b_L_replacedAmount 1 = .ok (.iconst 5, 1) := by decide +kernel
theorem d_L_replacedAmount_2 : decode b_L_replacedAmount 2 = .ok (.if_icmp .ne 7, 3) := by decide +kernel
theorem d_L_replacedAmount_5 : decode b_L_replacedAmount 5 = .ok (.iload_n 2, 1) := by decide +kernel
theorem d_L_replacedAmount_6 : decode b_L_replacedAmount 6 = .ok (.iconst 2, 1) := by decide +kernel
theorem d_L_replacedAmount_7 : decode b_L_replacedAmount 7 = .ok (.imul, 1) := by decide +kernel
theorem d_L_replacedAmount_8 : decode b_L_replacedAmount 8 = .ok (.ireturn, 1) := by decide +kernel
theorem d_L_replacedAmount_9 : decode b_L_replacedAmount 9 = .ok (.iload_n 0, 1) := by decide +kernel
theorem d_L_replacedAmount_10 : decode b_L_replacedAmount 10 = .ok (.bipush 7, 2) := by decide +kernel
theorem d_L_replacedAmount_12 : decode b_L_replacedAmount 12 = .ok (.if_icmp .ne 9, 3) := by decide +kernel
theorem d_L_replacedAmount_15 : decode b_L_replacedAmount 15 = .ok (.iload_n 2, 1) := by decide +kernel
theorem d_L_replacedAmount_16 : decode b_L_replacedAmount 16 = .ok (.iload_n 1, 1) := by decide +kernel
theorem d_L_replacedAmount_17 : decode b_L_replacedAmount 17 = .ok (.isub, 1) := by decide +kernel
theorem d_L_replacedAmount_18 : decode b_L_replacedAmount 18 = .ok (.goto 4, 3) := by decide +kernel
theorem d_L_replacedAmount_21 : decode b_L_replacedAmount 21 = .ok (.iload_n 2, 1) := by decide +kernel
theorem d_L_replacedAmount_22 : decode b_L_replacedAmount 22 = .ok (.ireturn, 1) := by decide +kernel
theorem d_L_codeOf_0 : decode b_L_codeOf 0 = .ok (.sipush 1000, 3) := by decide +kernel
theorem d_L_codeOf_3 : decode b_L_codeOf 3 = .ok (.iload_n 0, 1) := by decide +kernel
theorem d_L_codeOf_4 : decode b_L_codeOf 4 = .ok (.imul, 1) := by decide +kernel
theorem d_L_codeOf_5 : decode b_L_codeOf 5 = .ok (.bipush 100, 2) := by decide +kernel
theorem d_L_codeOf_7 : decode b_L_codeOf 7 = .ok (.iload_n 1, 1) := by decide +kernel
theorem d_L_codeOf_8 : decode b_L_codeOf 8 = .ok (.imul, 1) := by decide +kernel
theorem d_L_codeOf_9 : decode b_L_codeOf 9 = .ok (.iadd, 1) := by decide +kernel
theorem d_L_codeOf_10 : decode b_L_codeOf 10 = .ok (.iload_n 2, 1) := by decide +kernel
theorem d_L_codeOf_11 : decode b_L_codeOf 11 = .ok (.iadd, 1) := by decide +kernel
theorem d_L_codeOf_12 : decode b_L_codeOf 12 = .ok (.ireturn, 1) := by decide +kernel
theorem d_L_seedAfter_0 : decode b_L_seedAfter 0 = .ok (.iload_n 0, 1) := by decide +kernel
theorem d_L_seedAfter_1 : decode b_L_seedAfter 1 = .ok (.ldc_w 328, 3) := by decide +kernel
theorem d_L_seedAfter_4 : decode b_L_seedAfter 4 = .ok (.imul, 1) := by decide +kernel
theorem d_L_seedAfter_5 : decode b_L_seedAfter 5 = .ok (.sipush 12345, 3) := by decide +kernel
theorem d_L_seedAfter_8 : decode b_L_seedAfter 8 = .ok (.iadd, 1) := by decide +kernel
theorem d_L_seedAfter_9 : decode b_L_seedAfter 9 = .ok (.ireturn, 1) := by decide +kernel
theorem d_L_drawnBelow_0 : decode b_L_drawnBelow 0 = .ok (.iload_n 0, 1) := by decide +kernel
theorem d_L_drawnBelow_1 : decode b_L_drawnBelow 1 = .ok (.ifCond .le 12, 3) := by decide +kernel
theorem d_L_drawnBelow_4 : decode b_L_drawnBelow 4 = .ok (.iload_n 1, 1) := by decide +kernel
theorem d_L_drawnBelow_5 : decode b_L_drawnBelow 5 = .ok (.bipush 16, 2) := by decide +kernel
theorem d_L_drawnBelow_7 : decode b_L_drawnBelow 7 = .ok (.iushr, 1) := by decide +kernel
theorem d_L_drawnBelow_8 : decode b_L_drawnBelow 8 = .ok (.iload_n 0, 1) := by decide +kernel
theorem d_L_drawnBelow_9 : decode b_L_drawnBelow 9 = .ok (.irem, 1) := by decide +kernel
theorem d_L_drawnBelow_10 : decode b_L_drawnBelow 10 = .ok (.goto 4, 3) := by decide +kernel
theorem d_L_drawnBelow_13 : decode b_L_drawnBelow 13 = .ok (.iconst 0, 1) := by decide +kernel
theorem d_L_drawnBelow_14 : decode b_L_drawnBelow 14 = .ok (.ireturn, 1) := by decide +kernel
theorem d_M_init_0 : decode b_M_init 0 = .ok (.aload_n 0, 1) := by decide +kernel
theorem d_M_init_1 : decode b_M_init 1 = .ok (.invokespecial 3, 3) := by decide +kernel
theorem d_M_init_4 : decode b_M_init 4 = .ok (.aload_n 0, 1) := by decide +kernel
theorem d_M_init_5 : decode b_M_init 5 = .ok (.bipush 24, 2) := by decide +kernel
theorem d_M_init_7 : decode b_M_init 7 = .ok (.newarray .int, 2) := by decide +kernel
theorem d_M_init_9 : decode b_M_init 9 = .ok (.putfield 9, 3) := by decide +kernel
theorem d_M_init_12 : decode b_M_init 12 = .ok (.aload_n 0, 1) := by decide +kernel
theorem d_M_init_13 : decode b_M_init 13 = .ok (.bipush 24, 2) := by decide +kernel
theorem d_M_init_15 : decode b_M_init 15 = .ok (.newarray .int, 2) := by decide +kernel
theorem d_M_init_17 : decode b_M_init 17 = .ok (.putfield 13, 3) := by decide +kernel
theorem d_M_init_20 : decode b_M_init 20 = .ok (.aload_n 0, 1) := by decide +kernel
theorem d_M_init_21 : decode b_M_init 21 = .ok (.bipush 24, 2) := by decide +kernel
theorem d_M_init_23 : decode b_M_init 23 = .ok (.newarray .int, 2) := by decide +kernel
theorem d_M_init_25 : decode b_M_init 25 = .ok (.putfield 16, 3) := by decide +kernel
theorem d_M_init_28 : decode b_M_init 28 = .ok (.aload_n 0, 1) := by decide +kernel
theorem d_M_init_29 : decode b_M_init 29 = .ok (.bipush 24, 2) := by decide +kernel
theorem d_M_init_31 : decode b_M_init 31 = .ok (.newarray .int, 2) := by decide +kernel
theorem d_M_init_33 : decode b_M_init 33 = .ok (.putfield 19, 3) := by decide +kernel
theorem d_M_init_36 : decode b_M_init 36 = .ok (.aload_n 0, 1) := by decide +kernel
theorem d_M_init_37 : decode b_M_init 37 = .ok (.bipush 24, 2) := by decide +kernel
theorem d_M_init_39 : decode b_M_init 39 = .ok (.newarray .int, 2) := by decide +kernel
theorem d_M_init_41 : decode b_M_init 41 = .ok (.putfield 22, 3) := by decide +kernel
theorem d_M_init_44 : decode b_M_init 44 = .ok (.aload_n 0, 1) := by decide +kernel
theorem d_M_init_45 : decode b_M_init 45 = .ok (.bipush 123, 2) := by decide +kernel
theorem d_M_init_47 : decode b_M_init 47 = .ok (.newarray .int, 2) := by decide +kernel
theorem d_M_init_49 : decode b_M_init 49 = .ok (.putfield 25, 3) := by decide +kernel
theorem d_M_init_52 : decode b_M_init 52 = .ok (.aload_n 0, 1) := by decide +kernel
theorem d_M_init_53 : decode b_M_init 53 = .ok (.bipush 6, 2) := by decide +kernel
theorem d_M_init_55 : decode b_M_init 55 = .ok (.bipush 123, 2) := by decide +kernel
theorem d_M_init_57 : decode b_M_init 57 = .ok (.multianewarray 28 2, 4) := by decide +kernel
theorem d_M_init_61 : decode b_M_init 61 = .ok (.putfield 30, 3) := by decide +kernel
theorem d_M_init_64 : decode b_M_init 64 = .ok (.aload_n 0, 1) := by decide +kernel
theorem d_M_init_65 : decode b_M_init 65 = .ok (.bipush 123, 2) := by decide +kernel
theorem d_M_init_67 : decode b_M_init 67 = .ok (.newarray .int, 2) := by decide +kernel
theorem d_M_init_69 : decode b_M_init 69 = .ok (.putfield 33, 3) := by decide +kernel
theorem d_M_init_72 : decode b_M_init 72 = .ok (.aload_n 0, 1) := by decide +kernel
theorem d_M_init_73 : decode b_M_init 73 = .ok (.iconst (-1), 1) := by decide +kernel
theorem d_M_init_74 : decode b_M_init 74 = .ok (.putfield 36, 3) := by decide +kernel
theorem d_M_init_77 : decode b_M_init 77 = .ok (.aload_n 0, 1) := by decide +kernel
theorem d_M_init_78 : decode b_M_init 78 = .ok (.sipush 201, 3) := by decide +kernel
theorem d_M_init_81 : decode b_M_init 81 = .ok (.bipush 116, 2) := by decide +kernel
theorem d_M_init_83 : decode b_M_init 83 = .ok (.multianewarray 28 2, 4) := by decide +kernel
theorem d_M_init_87 : decode b_M_init 87 = .ok (.putfield 40, 3) := by decide +kernel
theorem d_M_init_90 : decode b_M_init 90 = .ok (.aload_n 0, 1) := by decide +kernel
theorem d_M_init_91 : decode b_M_init 91 = .ok (.iconst 4, 1) := by decide +kernel
theorem d_M_init_92 : decode b_M_init 92 = .ok (.newarray .int, 2) := by decide +kernel
theorem d_M_init_94 : decode b_M_init 94 = .ok (.putfield 43, 3) := by decide +kernel
theorem d_M_init_97 : decode b_M_init 97 = .ok (.aload_n 0, 1) := by decide +kernel
theorem d_M_init_98 : decode b_M_init 98 = .ok (.bipush 24, 2) := by decide +kernel
theorem d_M_init_100 : decode b_M_init 100 = .ok (.newarray .int, 2) := by decide +kernel
theorem d_M_init_102 : decode b_M_init 102 = .ok (.putfield 46, 3) := by decide +kernel
theorem d_M_init_105 : decode b_M_init 105 = .ok (.aload_n 0, 1) := by decide +kernel
theorem d_M_init_106 : decode b_M_init 106 = .ok (.bipush 24, 2) := by decide +kernel
theorem d_M_init_108 : decode b_M_init 108 = .ok (.newarray .int, 2) := by decide +kernel
theorem d_M_init_110 : decode b_M_init 110 = .ok (.putfield 49, 3) := by decide +kernel
theorem d_M_init_113 : decode b_M_init 113 = .ok (.aload_n 0, 1) := by decide +kernel
theorem d_M_init_114 : decode b_M_init 114 = .ok (.bipush 120, 2) := by decide +kernel
theorem d_M_init_116 : decode b_M_init 116 = .ok (.newarray .int, 2) := by decide +kernel
theorem d_M_init_118 : decode b_M_init 118 = .ok (.putfield 52, 3) := by decide +kernel
theorem d_M_init_121 : decode b_M_init 121 = .ok (.aload_n 0, 1) := by decide +kernel
theorem d_M_init_122 : decode b_M_init 122 = .ok (.bipush 8, 2) := by decide +kernel
theorem d_M_init_124 : decode b_M_init 124 = .ok (.newarray .int, 2) := by decide +kernel
theorem d_M_init_126 : decode b_M_init 126 = .ok (.putfield 55, 3) := by decide +kernel
theorem d_M_init_129 : decode b_M_init 129 = .ok (.aload_n 0, 1) := by decide +kernel
theorem d_M_init_130 : decode b_M_init 130 = .ok (.bipush (-2), 2) := by decide +kernel
theorem d_M_init_132 : decode b_M_init 132 = .ok (.putfield 58, 3) := by decide +kernel
theorem d_M_init_135 : decode b_M_init 135 = .ok (.aload_n 0, 1) := by decide +kernel
theorem d_M_init_136 : decode b_M_init 136 = .ok (.bipush (-2), 2) := by decide +kernel
theorem d_M_init_138 : decode b_M_init 138 = .ok (.putfield 61, 3) := by decide +kernel
theorem d_M_init_141 : decode b_M_init 141 = .ok (.aload_n 0, 1) := by decide +kernel
theorem d_M_init_142 : decode b_M_init 142 = .ok (.bipush 40, 2) := by decide +kernel
theorem d_M_init_144 : decode b_M_init 144 = .ok (.newarray .int, 2) := by decide +kernel
theorem d_M_init_146 : decode b_M_init 146 = .ok (.putfield 64, 3) := by decide +kernel
theorem d_M_init_149 : decode b_M_init 149 = .ok (.aload_n 0, 1) := by decide +kernel
theorem d_M_init_150 : decode b_M_init 150 = .ok (.bipush 40, 2) := by decide +kernel
theorem d_M_init_152 : decode b_M_init 152 = .ok (.newarray .int, 2) := by decide +kernel
theorem d_M_init_154 : decode b_M_init 154 = .ok (.putfield 67, 3) := by decide +kernel
theorem d_M_init_157 : decode b_M_init 157 = .ok (.aload_n 0, 1) := by decide +kernel
theorem d_M_init_158 : decode b_M_init 158 = .ok (.getfield 25, 3) := by decide +kernel
theorem d_M_init_161 : decode b_M_init 161 = .ok (.iconst 0, 1) := by decide +kernel
theorem d_M_init_162 : decode b_M_init 162 = .ok (.bipush 20, 2) := by decide +kernel
theorem d_M_init_164 : decode b_M_init 164 = .ok (.iastore, 1) := by decide +kernel
theorem d_M_init_165 : decode b_M_init 165 = .ok (.aload_n 0, 1) := by decide +kernel
theorem d_M_init_166 : decode b_M_init 166 = .ok (.getfield 25, 3) := by decide +kernel
theorem d_M_init_169 : decode b_M_init 169 = .ok (.iconst 1, 1) := by decide +kernel
theorem d_M_init_170 : decode b_M_init 170 = .ok (.bipush 20, 2) := by decide +kernel
theorem d_M_init_172 : decode b_M_init 172 = .ok (.iastore, 1) := by decide +kernel
theorem d_M_init_173 : decode b_M_init 173 = .ok (.aload_n 0, 1) := by decide +kernel
theorem d_M_init_174 : decode b_M_init 174 = .ok (.getfield 25, 3) := by decide +kernel
theorem d_M_init_177 : decode b_M_init 177 = .ok (.iconst 3, 1) := by decide +kernel
theorem d_M_init_178 : decode b_M_init 178 = .ok (.iconst 1, 1) := by decide +kernel
theorem d_M_init_179 : decode b_M_init 179 = .ok (.iastore, 1) := by decide +kernel
theorem d_M_init_180 : decode b_M_init 180 = .ok (.aload_n 0, 1) := by decide +kernel
theorem d_M_init_181 : decode b_M_init 181 = .ok (.getfield 25, 3) := by decide +kernel
theorem d_M_init_184 : decode b_M_init 184 = .ok (.bipush 119, 2) := by decide +kernel
theorem d_M_init_186 : decode b_M_init 186 = .ok (.iconst 1, 1) := by decide +kernel
theorem d_M_init_187 : decode b_M_init 187 = .ok (.iastore, 1) := by decide +kernel
theorem d_M_init_188 : decode b_M_init 188 = .ok (.aload_n 0, 1) := by decide +kernel
theorem d_M_init_189 : decode b_M_init 189 = .ok (.getfield 25, 3) := by decide +kernel
theorem d_M_init_192 : decode b_M_init 192 = .ok (.bipush 120, 2) := by decide +kernel
theorem d_M_init_194 : decode b_M_init 194 = .ok (.iconst 2, 1) := by decide +kernel
theorem d_M_init_195 : decode b_M_init 195 = .ok (.iastore, 1) := by decide +kernel
theorem d_M_init_196 : decode b_M_init 196 = .ok (.aload_n 0, 1) := by decide +kernel
theorem d_M_init_197 : decode b_M_init 197 = .ok (.getfield 25, 3) := by decide +kernel
theorem d_M_init_200 : decode b_M_init 200 = .ok (.bipush 121, 2) := by decide +kernel
theorem d_M_init_202 : decode b_M_init 202 = .ok (.iconst 1, 1) := by decide +kernel
theorem d_M_init_203 : decode b_M_init 203 = .ok (.iastore, 1) := by decide +kernel
theorem d_M_init_204 : decode b_M_init 204 = .ok (.aload_n 0, 1) := by decide +kernel
theorem d_M_init_205 : decode b_M_init 205 = .ok (.getfield 25, 3) := by decide +kernel
theorem d_M_init_208 : decode b_M_init 208 = .ok (.bipush 122, 2) := by decide +kernel
theorem d_M_init_210 : decode b_M_init 210 = .ok (.bipush 7, 2) := by decide +kernel
theorem d_M_init_212 : decode b_M_init 212 = .ok (.iastore, 1) := by decide +kernel
theorem d_M_init_213 : decode b_M_init 213 = .ok (.iconst 0, 1) := by decide +kernel
theorem d_M_init_214 : decode b_M_init 214 = .ok (.istore_n 1, 1) := by decide +kernel
theorem d_M_init_215 : decode b_M_init 215 = .ok (.iload_n 1, 1) := by decide +kernel
theorem d_M_init_216 : decode b_M_init 216 = .ok (.bipush 8, 2) := by decide +kernel
theorem d_M_init_218 : decode b_M_init 218 = .ok (.if_icmp .ge 16, 3) := by decide +kernel
theorem d_M_init_221 : decode b_M_init 221 = .ok (.aload_n 0, 1) := by decide +kernel
theorem d_M_init_222 : decode b_M_init 222 = .ok (.getfield 55, 3) := by decide +kernel
theorem d_M_init_225 : decode b_M_init 225 = .ok (.iload_n 1, 1) := by decide +kernel
theorem d_M_init_226 : decode b_M_init 226 = .ok (.iconst (-1), 1) := by decide +kernel
theorem d_M_init_227 : decode b_M_init 227 = .ok (.iastore, 1) := by decide +kernel
theorem d_M_init_228 : decode b_M_init 228 = .ok (.iinc 1 1, 3) := by decide +kernel
theorem d_M_init_231 : decode b_M_init 231 = .ok (.goto (-16), 3) := by decide +kernel
theorem d_M_init_234 : decode b_M_init 234 = .ok (.return_, 1) := by decide +kernel
theorem d_M_in_0 : decode b_M_in 0 = .ok (.iload_n 0, 1) := by decide +kernel
theorem d_M_in_1 : decode b_M_in 1 = .ok (.iload_n 1, 1) := by decide +kernel
theorem d_M_in_2 : decode b_M_in 2 = .ok (.if_icmp .lt 12, 3) := by decide +kernel
theorem d_M_in_5 : decode b_M_in 5 = .ok (.iload_n 0, 1) := by decide +kernel
theorem d_M_in_6 : decode b_M_in 6 = .ok (.iload_n 2, 1) := by decide +kernel
theorem d_M_in_7 : decode b_M_in 7 = .ok (.if_icmp .gt 7, 3) := by decide +kernel
theorem d_M_in_10 : decode b_M_in 10 = .ok (.iconst 1, 1) := by decide +kernel
theorem d_M_in_11 : decode b_M_in 11 = .ok (.goto 4, 3) := by decide +kernel
theorem d_M_in_14 : decode b_M_in 14 = .ok (.iconst 0, 1) := by decide +kernel
theorem d_M_in_15 : decode b_M_in 15 = .ok (.ireturn, 1) := by decide +kernel
theorem d_M_held_0 : decode b_M_held 0 = .ok (.iload_n 0, 1) := by decide +kernel
theorem d_M_held_1 : decode b_M_held 1 = .ok (.iload_n 1, 1) := by decide +kernel
theorem d_M_held_2 : decode b_M_held 2 = .ok (.if_icmp .ge 7, 3) := by decide +kernel
theorem d_M_held_5 : decode b_M_held 5 = .ok (.iload_n 1, 1) := by decide +kernel
theorem d_M_held_6 : decode b_M_held 6 = .ok (.goto 13, 3) := by decide +kernel
theorem d_M_held_9 : decode b_M_held 9 = .ok (.iload_n 0, 1) := by decide +kernel
theorem d_M_held_10 : decode b_M_held 10 = .ok (.iload_n 2, 1) := by decide +kernel
theorem d_M_held_11 : decode b_M_held 11 = .ok (.if_icmp .le 7, 3) := by decide +kernel
theorem d_M_held_14 : decode b_M_held 14 = .ok (.iload_n 2, 1) := by decide +kernel
theorem d_M_held_15 : decode b_M_held 15 = .ok (.goto 4, 3) := by decide +kernel
theorem d_M_held_18 : decode b_M_held 18 = .ok (.iload_n 0, 1) := by decide +kernel
theorem d_M_held_19 : decode b_M_held 19 = .ok (.ireturn, 1) := by decide +kernel
theorem d_M_isCard_0 : decode b_M_isCard 0 = .ok (.iload_n 1, 1) := by decide +kernel
theorem d_M_isCard_1 : decode b_M_isCard 1 = .ok (.iconst 0, 1) := by decide +kernel
theorem d_M_isCard_2 : decode b_M_isCard 2 = .ok (.aload_n 0, 1) := by decide +kernel
theorem d_M_isCard_3 : decode b_M_isCard 3 = .ok (.getfield 70, 3) := by decide +kernel
theorem d_M_isCard_6 : decode b_M_isCard 6 = .ok (.iconst 1, 1) := by decide +kernel
theorem d_M_isCard_7 : decode b_M_isCard 7 = .ok (.isub, 1) := by decide +kernel
theorem d_M_isCard_8 : decode b_M_isCard 8 = .ok (.invokestatic 73, 3) := by decide +kernel
theorem d_M_isCard_11 : decode b_M_isCard 11 = .ok (.ireturn, 1) := by decide +kernel
theorem d_M_isAt_0 : decode b_M_isAt 0 = .ok (.aload_n 0, 1) := by decide +kernel
theorem d_M_isAt_1 : decode b_M_isAt 1 = .ok (.getfield 25, 3) := by decide +kernel
theorem d_M_isAt_4 : decode b_M_isAt 4 = .ok (.bipush 71, 2) := by decide +kernel
theorem d_M_isAt_6 : decode b_M_isAt 6 = .ok (.iload_n 1, 1) := by decide +kernel
theorem d_M_isAt_7 : decode b_M_isAt 7 = .ok (.iadd, 1) := by decide +kernel
theorem d_M_isAt_8 : decode b_M_isAt 8 = .ok (.iaload, 1) := by decide +kernel
theorem d_M_isAt_9 : decode b_M_isAt 9 = .ok (.iload_n 2, 1) := by decide +kernel
theorem d_M_isAt_10 : decode b_M_isAt 10 = .ok (.if_icmp .ne 7, 3) := by decide +kernel
theorem d_M_isAt_13 : decode b_M_isAt 13 = .ok (.iconst 1, 1) := by decide +kernel
theorem d_M_isAt_14 : decode b_M_isAt 14 = .ok (.goto 4, 3) := by decide +kernel
theorem d_M_isAt_17 : decode b_M_isAt 17 = .ok (.iconst 0, 1) := by decide +kernel
theorem d_M_isAt_18 : decode b_M_isAt 18 = .ok (.ireturn, 1) := by decide +kernel
theorem d_M_copy_0 : decode b_M_copy 0 = .ok (.iconst 0, 1) := by decide +kernel
theorem d_M_copy_1 : decode b_M_copy 1 = .ok (.istore_n 2, 1) := by decide +kernel
theorem d_M_copy_2 : decode b_M_copy 2 = .ok (.iload_n 2, 1) := by decide +kernel
theorem d_M_copy_3 : decode b_M_copy 3 = .ok (.bipush 123, 2) := by decide +kernel
theorem d_M_copy_5 : decode b_M_copy 5 = .ok (.if_icmp .ge 15, 3) := by decide +kernel
theorem d_M_copy_8 : decode b_M_copy 8 = .ok (.aload_n 1, 1) := by decide +kernel
theorem d_M_copy_9 : decode b_M_copy 9 = .ok (.iload_n 2, 1) := by decide +kernel
theorem d_M_copy_10 : decode b_M_copy 10 = .ok (.aload_n 0, 1) := by decide +kernel
theorem d_M_copy_11 : decode b_M_copy 11 = .ok (.iload_n 2, 1) := by decide +kernel
theorem d_M_copy_12 : decode b_M_copy 12 = .ok (.iaload, 1) := by decide +kernel
theorem d_M_copy_13 : decode b_M_copy 13 = .ok (.iastore, 1) := by decide +kernel
theorem d_M_copy_14 : decode b_M_copy 14 = .ok (.iinc 2 1, 3) := by decide +kernel
theorem d_M_copy_17 : decode b_M_copy 17 = .ok (.goto (-15), 3) := by decide +kernel
theorem d_M_copy_20 : decode b_M_copy 20 = .ok (.return_, 1) := by decide +kernel
theorem d_M_add_0 : decode b_M_add 0 = .ok (.aload_n 0, 1) := by decide +kernel
theorem d_M_add_1 : decode b_M_add 1 = .ok (.getfield 9, 3) := by decide +kernel
theorem d_M_add_4 : decode b_M_add 4 = .ok (.aload_n 0, 1) := by decide +kernel
theorem d_M_add_5 : decode b_M_add 5 = .ok (.getfield 70, 3) := by decide +kernel
theorem d_M_add_8 : decode b_M_add 8 = .ok (.iload_n 1, 1) := by decide +kernel
theorem d_M_add_9 : decode b_M_add 9 = .ok (.iastore, 1) := by decide +kernel
theorem d_M_add_10 : decode b_M_add 10 = .ok (.aload_n 0, 1) := by decide +kernel
theorem d_M_add_11 : decode b_M_add 11 = .ok (.getfield 13, 3) := by decide +kernel
theorem d_M_add_14 : decode b_M_add 14 = .ok (.aload_n 0, 1) := by decide +kernel
theorem d_M_add_15 : decode b_M_add 15 = .ok (.getfield 70, 3) := by decide +kernel
theorem d_M_add_18 : decode b_M_add 18 = .ok (.iload_n 2, 1) := by decide +kernel
theorem d_M_add_19 : decode b_M_add 19 = .ok (.iastore, 1) := by decide +kernel
theorem d_M_add_20 : decode b_M_add 20 = .ok (.aload_n 0, 1) := by decide +kernel
theorem d_M_add_21 : decode b_M_add 21 = .ok (.getfield 16, 3) := by decide +kernel
theorem d_M_add_24 : decode b_M_add 24 = .ok (.aload_n 0, 1) := by decide +kernel
theorem d_M_add_25 : decode b_M_add 25 = .ok (.getfield 70, 3) := by decide +kernel
theorem d_M_add_28 : decode b_M_add 28 = .ok (.iload_n 3, 1) := by decide +kernel
theorem d_M_add_29 : decode b_M_add 29 = .ok (.iastore, 1) := by decide +kernel
theorem d_M_add_30 : decode b_M_add 30 = .ok (.aload_n 0, 1) := by decide +kernel
theorem d_M_add_31 : decode b_M_add 31 = .ok (.getfield 19, 3) := by decide +kernel
theorem d_M_add_34 : decode b_M_add 34 = .ok (.aload_n 0, 1) := by decide +kernel
theorem d_M_add_35 : decode b_M_add 35 = .ok (.getfield 70, 3) := by decide +kernel
theorem d_M_add_38 : decode b_M_add 38 = .ok (.iload 4, 2) := by decide +kernel
theorem d_M_add_40 : decode b_M_add 40 = .ok (.iastore, 1) := by decide +kernel
theorem d_M_add_41 : decode b_M_add 41 = .ok (.aload_n 0, 1) := by decide +kernel
theorem d_M_add_42 : decode b_M_add 42 = .ok (.getfield 22, 3) := by decide +kernel
theorem d_M_add_45 : decode b_M_add 45 = .ok (.aload_n 0, 1) := by decide +kernel
theorem d_M_add_46 : decode b_M_add 46 = .ok (.getfield 70, 3) := by decide +kernel
theorem d_M_add_49 : decode b_M_add 49 = .ok (.iload 5, 2) := by decide +kernel
theorem d_M_add_51 : decode b_M_add 51 = .ok (.iastore, 1) := by decide +kernel
theorem d_M_add_52 : decode b_M_add 52 = .ok (.aload_n 0, 1) := by decide +kernel
theorem d_M_add_53 : decode b_M_add 53 = .ok (.getfield 25, 3) := by decide +kernel
theorem d_M_add_56 : decode b_M_add 56 = .ok (.bipush 71, 2) := by decide +kernel
theorem d_M_add_58 : decode b_M_add 58 = .ok (.aload_n 0, 1) := by decide +kernel
theorem d_M_add_59 : decode b_M_add 59 = .ok (.getfield 70, 3) := by decide +kernel
theorem d_M_add_62 : decode b_M_add 62 = .ok (.iadd, 1) := by decide +kernel
theorem d_M_add_63 : decode b_M_add 63 = .ok (.iconst 0, 1) := by decide +kernel
theorem d_M_add_64 : decode b_M_add 64 = .ok (.iastore, 1) := by decide +kernel
theorem d_M_add_65 : decode b_M_add 65 = .ok (.aload_n 0, 1) := by decide +kernel
theorem d_M_add_66 : decode b_M_add 66 = .ok (.getfield 25, 3) := by decide +kernel
theorem d_M_add_69 : decode b_M_add 69 = .ok (.bipush 95, 2) := by decide +kernel
theorem d_M_add_71 : decode b_M_add 71 = .ok (.aload_n 0, 1) := by decide +kernel
theorem d_M_add_72 : decode b_M_add 72 = .ok (.getfield 70, 3) := by decide +kernel
theorem d_M_add_75 : decode b_M_add 75 = .ok (.iadd, 1) := by decide +kernel
theorem d_M_add_76 : decode b_M_add 76 = .ok (.iconst 0, 1) := by decide +kernel
theorem d_M_add_77 : decode b_M_add 77 = .ok (.iastore, 1) := by decide +kernel
theorem d_M_add_78 : decode b_M_add 78 = .ok (.aload_n 0, 1) := by decide +kernel
theorem d_M_add_79 : decode b_M_add 79 = .ok (.dup, 1) := by decide +kernel
theorem d_M_add_80 : decode b_M_add 80 = .ok (.getfield 70, 3) := by decide +kernel
theorem d_M_add_83 : decode b_M_add 83 = .ok (.dup_x1, 1) := by decide +kernel
theorem d_M_add_84 : decode b_M_add 84 = .ok (.iconst 1, 1) := by decide +kernel
theorem d_M_add_85 : decode b_M_add 85 = .ok (.iadd, 1) := by decide +kernel
theorem d_M_add_86 : decode b_M_add 86 = .ok (.putfield 70, 3) := by decide +kernel
theorem d_M_add_89 : decode b_M_add 89 = .ok (.ireturn, 1) := by decide +kernel
theorem d_M_card_0 : decode b_M_card 0 = .ok (.iload_n 1, 1) := by decide +kernel
theorem d_M_card_1 : decode b_M_card 1 = .ok (.iconst 0, 1) := by decide +kernel
theorem d_M_card_2 : decode b_M_card 2 = .ok (.bipush 14, 2) := by decide +kernel
theorem d_M_card_4 : decode b_M_card 4 = .ok (.invokestatic 73, 3) := by decide +kernel
theorem d_M_card_7 : decode b_M_card 7 = .ok (.ifCond .eq 42, 3) := by decide +kernel
theorem d_M_card_10 : decode b_M_card 10 = .ok (.iload_n 2, 1) := by decide +kernel
theorem d_M_card_11 : decode b_M_card 11 = .ok (.iconst 0, 1) := by decide +kernel
theorem d_M_card_12 : decode b_M_card 12 = .ok (.iconst 1, 1) := by decide +kernel
theorem d_M_card_13 : decode b_M_card 13 = .ok (.invokestatic 73, 3) := by decide +kernel
theorem d_M_card_16 : decode b_M_card 16 = .ok (.ifCond .eq 33, 3) := by decide +kernel
theorem d_M_card_19 : decode b_M_card 19 = .ok (.iload_n 3, 1) := by decide +kernel
theorem d_M_card_20 : decode b_M_card 20 = .ok (.iconst 0, 1) := by decide +kernel
theorem d_M_card_21 : decode b_M_card 21 = .ok (.bipush 33, 2) := by decide +kernel
theorem d_M_card_23 : decode b_M_card 23 = .ok (.invokestatic 73, 3) := by decide +kernel
theorem d_M_card_26 : decode b_M_card 26 = .ok (.ifCond .eq 23, 3) := by decide +kernel
theorem d_M_card_29 : decode b_M_card 29 = .ok (.iload_n 3, 1) := by decide +kernel
theorem d_M_card_30 : decode b_M_card 30 = .ok (.bipush 10, 2) := by decide +kernel
theorem d_M_card_32 : decode b_M_card 32 = .ok (.irem, 1) := by decide +kernel
theorem d_M_card_33 : decode b_M_card 33 = .ok (.iconst 3, 1) := by decide +kernel
theorem d_M_card_34 : decode b_M_card 34 = .ok (.if_icmp .gt 15, 3) := by decide +kernel
theorem d_M_card_37 : decode b_M_card 37 = .ok (.iload 4, 2) := by decide +kernel
theorem d_M_card_39 : decode b_M_card 39 = .ok (.bipush (-9), 2) := by decide +kernel
theorem d_M_card_41 : decode b_M_card 41 = .ok (.bipush 9, 2) := by decide +kernel
theorem d_M_card_43 : decode b_M_card 43 = .ok (.invokestatic 73, 3) := by decide +kernel
theorem d_M_card_46 : decode b_M_card 46 = .ok (.ifCond .ne 5, 3) := by decide +kernel
theorem d_M_card_49 : decode b_M_card 49 = .ok (.iconst (-1), 1) := by decide +kernel
theorem d_M_card_50 : decode b_M_card 50 = .ok (.ireturn, 1) := by decide +kernel
theorem d_M_card_51 : decode b_M_card 51 = .ok (.aload_n 0, 1) := by decide +kernel
theorem d_M_card_52 : decode b_M_card 52 = .ok (.getfield 70, 3) := by decide +kernel
theorem d_M_card_55 : decode b_M_card 55 = .ok (.bipush 24, 2) := by decide +kernel
theorem d_M_card_57 : decode b_M_card 57 = .ok (.if_icmp .ne 8, 3) := by decide +kernel
theorem d_M_card_60 : decode b_M_card 60 = .ok (.bipush (-3), 2) := by decide +kernel
theorem d_M_card_62 : decode b_M_card 62 = .ok (.goto 19, 3) := by decide +kernel
theorem d_M_card_65 : decode b_M_card 65 = .ok (.aload_n 0, 1) := by decide +kernel
theorem d_M_card_66 : decode b_M_card 66 = .ok (.iload_n 1, 1) := by decide +kernel
theorem d_M_card_67 : decode b_M_card 67 = .ok (.iload_n 2, 1) := by decide +kernel
theorem d_M_card_68 : decode b_M_card 68 = .ok (.iload_n 3, 1) := by decide +kernel
theorem d_M_card_69 : decode b_M_card 69 = .ok (.bipush 10, 2) := by decide +kernel
theorem d_M_card_71 : decode b_M_card 71 = .ok (.idiv, 1) := by decide +kernel
theorem d_M_card_72 : decode b_M_card 72 = .ok (.iload_n 3, 1) := by decide +kernel
theorem d_M_card_73 : decode b_M_card 73 = .ok (.bipush 10, 2) := by decide +kernel
theorem d_M_card_75 : decode b_M_card 75 = .ok (.irem, 1) := by decide +kernel
theorem d_M_card_76 : decode b_M_card 76 = .ok (.iload 4, 2) := by decide +kernel
theorem d_M_card_78 : decode b_M_card 78 = .ok (.invokevirtual 77, 3) := by decide +kernel
theorem d_M_card_81 : decode b_M_card 81 = .ok (.ireturn, 1) := by decide +kernel
theorem d_M_feed_0 : decode b_M_feed 0 = .ok (.iload_n 1, 1) := by decide +kernel
theorem d_M_feed_1 : decode b_M_feed 1 = .ok (.iconst 0, 1) := by decide +kernel
theorem d_M_feed_2 : decode b_M_feed 2 = .ok (.sipush 255, 3) := by decide +kernel
theorem d_M_feed_5 : decode b_M_feed 5 = .ok (.invokestatic 73, 3) := by decide +kernel
theorem d_M_feed_8 : decode b_M_feed 8 = .ok (.ifCond .ne 5, 3) := by decide +kernel
theorem d_M_feed_11 : decode b_M_feed 11 = .ok (.iconst (-1), 1) := by decide +kernel
theorem d_M_feed_12 : decode b_M_feed 12 = .ok (.ireturn, 1) := by decide +kernel
theorem d_M_feed_13 : decode b_M_feed 13 = .ok (.aload_n 0, 1) := by decide +kernel
theorem d_M_feed_14 : decode b_M_feed 14 = .ok (.getfield 81, 3) := by decide +kernel
theorem d_M_feed_17 : decode b_M_feed 17 = .ok (.bipush 120, 2) := by decide +kernel
theorem d_M_feed_19 : decode b_M_feed 19 = .ok (.if_icmp .ne 6, 3) := by decide +kernel
theorem d_M_feed_22 : decode b_M_feed 22 = .ok (.bipush (-3), 2) := by decide +kernel
theorem d_M_feed_24 : decode b_M_feed 24 = .ok (.ireturn, 1) := by decide +kernel
theorem d_M_feed_25 : decode b_M_feed 25 = .ok (.aload_n 0, 1) := by decide +kernel
theorem d_M_feed_26 : decode b_M_feed 26 = .ok (.getfield 52, 3) := by decide +kernel
theorem d_M_feed_29 : decode b_M_feed 29 = .ok (.aload_n 0, 1) := by decide +kernel
theorem d_M_feed_30 : decode b_M_feed 30 = .ok (.dup, 1) := by decide +kernel
theorem d_M_feed_31 : decode b_M_feed 31 = .ok (.getfield 81, 3) := by decide +kernel
theorem d_M_feed_34 : decode b_M_feed 34 = .ok (.dup_x1, 1) := by decide +kernel
theorem d_M_feed_35 : decode b_M_feed 35 = .ok (.iconst 1, 1) := by decide +kernel
theorem d_M_feed_36 : decode b_M_feed 36 = .ok (.iadd, 1) := by decide +kernel
theorem d_M_feed_37 : decode b_M_feed 37 = .ok (.putfield 81, 3) := by decide +kernel
theorem d_M_feed_40 : decode b_M_feed 40 = .ok (.iload_n 1, 1) := by decide +kernel
theorem d_M_feed_41 : decode b_M_feed 41 = .ok (.iastore, 1) := by decide +kernel
theorem d_M_feed_42 : decode b_M_feed 42 = .ok (.aload_n 0, 1) := by decide +kernel
theorem d_M_feed_43 : decode b_M_feed 43 = .ok (.getfield 81, 3) := by decide +kernel
theorem d_M_feed_46 : decode b_M_feed 46 = .ok (.ireturn, 1) := by decide +kernel
theorem d_M_wordOf_0 : decode b_M_wordOf 0 = .ok (.iload_n 0, 1) := by decide +kernel
theorem d_M_wordOf_1 : decode b_M_wordOf 1 = .ok (.tableswitch 113 0 13 #[71, 74, 77, 80, 83, 86, 89, 92, 95, 98, 101, 104, 107, 110], 71) := by decide +kernel
theorem d_M_wordOf_72 : decode b_M_wordOf 72 = .ok (.ldc 84, 2) := by decide +kernel
theorem d_M_wordOf_74 : decode b_M_wordOf 74 = .ok (.areturn, 1) := by decide +kernel
theorem d_M_wordOf_75 : decode b_M_wordOf 75 = .ok (.ldc 85, 2) := by decide +kernel
theorem d_M_wordOf_77 : decode b_M_wordOf 77 = .ok (.areturn, 1) := by decide +kernel
theorem d_M_wordOf_78 : decode b_M_wordOf 78 = .ok (.ldc 87, 2) := by decide +kernel
theorem d_M_wordOf_80 : decode b_M_wordOf 80 = .ok (.areturn, 1) := by decide +kernel
theorem d_M_wordOf_81 : decode b_M_wordOf 81 = .ok (.ldc 89, 2) := by decide +kernel
theorem d_M_wordOf_83 : decode b_M_wordOf 83 = .ok (.areturn, 1) := by decide +kernel
theorem d_M_wordOf_84 : decode b_M_wordOf 84 = .ok (.ldc 91, 2) := by decide +kernel
theorem d_M_wordOf_86 : decode b_M_wordOf 86 = .ok (.areturn, 1) := by decide +kernel
theorem d_M_wordOf_87 : decode b_M_wordOf 87 = .ok (.ldc 93, 2) := by decide +kernel
theorem d_M_wordOf_89 : decode b_M_wordOf 89 = .ok (.areturn, 1) := by decide +kernel
theorem d_M_wordOf_90 : decode b_M_wordOf 90 = .ok (.ldc 95, 2) := by decide +kernel
theorem d_M_wordOf_92 : decode b_M_wordOf 92 = .ok (.areturn, 1) := by decide +kernel
theorem d_M_wordOf_93 : decode b_M_wordOf 93 = .ok (.ldc 97, 2) := by decide +kernel
theorem d_M_wordOf_95 : decode b_M_wordOf 95 = .ok (.areturn, 1) := by decide +kernel
theorem d_M_wordOf_96 : decode b_M_wordOf 96 = .ok (.ldc 99, 2) := by decide +kernel
theorem d_M_wordOf_98 : decode b_M_wordOf 98 = .ok (.areturn, 1) := by decide +kernel
theorem d_M_wordOf_99 : decode b_M_wordOf 99 = .ok (.ldc 101, 2) := by decide +kernel
theorem d_M_wordOf_101 : decode b_M_wordOf 101 = .ok (.areturn, 1) := by decide +kernel
theorem d_M_wordOf_102 : decode b_M_wordOf 102 = .ok (.ldc 103, 2) := by decide +kernel
theorem d_M_wordOf_104 : decode b_M_wordOf 104 = .ok (.areturn, 1) := by decide +kernel
theorem d_M_wordOf_105 : decode b_M_wordOf 105 = .ok (.ldc 105, 2) := by decide +kernel
theorem d_M_wordOf_107 : decode b_M_wordOf 107 = .ok (.areturn, 1) := by decide +kernel
theorem d_M_wordOf_108 : decode b_M_wordOf 108 = .ok (.ldc 107, 2) := by decide +kernel
theorem d_M_wordOf_110 : decode b_M_wordOf 110 = .ok (.areturn, 1) := by decide +kernel
theorem d_M_wordOf_111 : decode b_M_wordOf 111 = .ok (.ldc 109, 2) := by decide +kernel
theorem d_M_wordOf_113 : decode b_M_wordOf 113 = .ok (.areturn, 1) := by decide +kernel
theorem d_M_wordOf_114 : decode b_M_wordOf 114 = .ok (.ldc 111, 2) := by decide +kernel
theorem d_M_wordOf_116 : decode b_M_wordOf 116 = .ok (.areturn, 1) := by decide +kernel
theorem d_M_sees_0 : decode b_M_sees 0 = .ok (.aload_n 0, 1) := by decide +kernel
theorem d_M_sees_1 : decode b_M_sees 1 = .ok (.getfield 113, 3) := by decide +kernel
theorem d_M_sees_4 : decode b_M_sees 4 = .ok (.aload_n 0, 1) := by decide +kernel
theorem d_M_sees_5 : decode b_M_sees 5 = .ok (.getfield 81, 3) := by decide +kernel
theorem d_M_sees_8 : decode b_M_sees 8 = .ok (.if_icmp .ge 24, 3) := by decide +kernel
theorem d_M_sees_11 : decode b_M_sees 11 = .ok (.aload_n 0, 1) := by decide +kernel
theorem d_M_sees_12 : decode b_M_sees 12 = .ok (.getfield 52, 3) := by decide +kernel
theorem d_M_sees_15 : decode b_M_sees 15 = .ok (.aload_n 0, 1) := by decide +kernel
theorem d_M_sees_16 : decode b_M_sees 16 = .ok (.getfield 113, 3) := by decide +kernel
theorem d_M_sees_19 : decode b_M_sees 19 = .ok (.iaload, 1) := by decide +kernel
theorem d_M_sees_20 : decode b_M_sees 20 = .ok (.iload_n 1, 1) := by decide +kernel
theorem d_M_sees_21 : decode b_M_sees 21 = .ok (.iload_n 2, 1) := by decide +kernel
theorem d_M_sees_22 : decode b_M_sees 22 = .ok (.invokestatic 73, 3) := by decide +kernel
theorem d_M_sees_25 : decode b_M_sees 25 = .ok (.ifCond .eq 7, 3) := by decide +kernel
theorem d_M_sees_28 : decode b_M_sees 28 = .ok (.iconst 1, 1) := by decide +kernel
theorem d_M_sees_29 : decode b_M_sees 29 = .ok (.goto 4, 3) := by decide +kernel
theorem d_M_sees_32 : decode b_M_sees 32 = .ok (.iconst 0, 1) := by decide +kernel
theorem d_M_sees_33 : decode b_M_sees 33 = .ok (.ireturn, 1) := by decide +kernel
theorem d_M_must_0 : decode b_M_must 0 = .ok (.aload_n 0, 1) := by decide +kernel
theorem d_M_must_1 : decode b_M_must 1 = .ok (.getfield 116, 3) := by decide +kernel
theorem d_M_must_4 : decode b_M_must 4 = .ok (.ifCond .lt 5, 3) := by decide +kernel
theorem d_M_must_7 : decode b_M_must 7 = .ok (.iload_n 1, 1) := by decide +kernel
theorem d_M_must_8 : decode b_M_must 8 = .ok (.ireturn, 1) := by decide +kernel
theorem d_M_must_9 : decode b_M_must 9 = .ok (.aload_n 0, 1) := by decide +kernel
theorem d_M_must_10 : decode b_M_must 10 = .ok (.iload_n 1, 1) := by decide +kernel
theorem d_M_must_11 : decode b_M_must 11 = .ok (.iload_n 2, 1) := by decide +kernel
theorem d_M_must_12 : decode b_M_must 12 = .ok (.invokevirtual 119, 3) := by decide +kernel
theorem d_M_must_15 : decode b_M_must 15 = .ok (.ifCond .ne 13, 3) := by decide +kernel
theorem d_M_must_18 : decode b_M_must 18 = .ok (.aload_n 0, 1) := by decide +kernel
theorem d_M_must_19 : decode b_M_must 19 = .ok (.aload_n 0, 1) := by decide +kernel
theorem d_M_must_20 : decode b_M_must 20 = .ok (.getfield 113, 3) := by decide +kernel
theorem d_M_must_23 : decode b_M_must 23 = .ok (.putfield 116, 3) := by decide +kernel
theorem d_M_must_26 : decode b_M_must 26 = .ok (.iload_n 1, 1) := by decide +kernel
theorem d_M_must_27 : decode b_M_must 27 = .ok (.ireturn, 1) := by decide +kernel
theorem d_M_must_28 : decode b_M_must 28 = .ok (.aload_n 0, 1) := by decide +kernel
theorem d_M_must_29 : decode b_M_must 29 = .ok (.getfield 52, 3) := by decide +kernel
theorem d_M_must_32 : decode b_M_must 32 = .ok (.aload_n 0, 1) := by decide +kernel
theorem d_M_must_33 : decode b_M_must 33 = .ok (.dup, 1) := by decide +kernel
theorem d_M_must_34 : decode b_M_must 34 = .ok (.getfield 113, 3) := by decide +kernel
theorem d_M_must_37 : decode b_M_must 37 = .ok (.dup_x1, 1) := by decide +kernel
theorem d_M_must_38 : decode b_M_must 38 = .ok (.iconst 1, 1) := by decide +kernel
theorem d_M_must_39 : decode b_M_must 39 = .ok (.iadd, 1) := by decide +kernel
theorem d_M_must_40 : decode b_M_must 40 = .ok (.putfield 113, 3) := by decide +kernel
theorem d_M_must_43 : decode b_M_must 43 = .ok (.iaload, 1) := by decide +kernel
theorem d_M_must_44 : decode b_M_must 44 = .ok (.ireturn, 1) := by decide +kernel
theorem d_M_goes_0 : decode b_M_goes 0 = .ok (.iconst 0, 1) := by decide +kernel
theorem d_M_goes_1 : decode b_M_goes 1 = .ok (.istore_n 2, 1) := by decide +kernel
theorem d_M_goes_2 : decode b_M_goes 2 = .ok (.iload_n 2, 1) := by decide +kernel
theorem d_M_goes_3 : decode b_M_goes 3 = .ok (.aload_n 1, 1) := by decide +kernel
theorem d_M_goes_4 : decode b_M_goes 4 = .ok (.invokevirtual 123, 3) := by decide +kernel
theorem d_M_goes_7 : decode b_M_goes 7 = .ok (.if_icmp .ge 41, 3) := by decide +kernel
theorem d_M_goes_10 : decode b_M_goes 10 = .ok (.aload_n 0, 1) := by decide +kernel
theorem d_M_goes_11 : decode b_M_goes 11 = .ok (.getfield 113, 3) := by decide +kernel
theorem d_M_goes_14 : decode b_M_goes 14 = .ok (.iload_n 2, 1) := by decide +kernel
theorem d_M_goes_15 : decode b_M_goes 15 = .ok (.iadd, 1) := by decide +kernel
theorem d_M_goes_16 : decode b_M_goes 16 = .ok (.aload_n 0, 1) := by decide +kernel
theorem d_M_goes_17 : decode b_M_goes 17 = .ok (.getfield 81, 3) := by decide +kernel
theorem d_M_goes_20 : decode b_M_goes 20 = .ok (.if_icmp .ge 28, 3) := by decide +kernel
theorem d_M_goes_23 : decode b_M_goes 23 = .ok (.aload_n 0, 1) := by decide +kernel
theorem d_M_goes_24 : decode b_M_goes 24 = .ok (.getfield 52, 3) := by decide +kernel
theorem d_M_goes_27 : decode b_M_goes 27 = .ok (.aload_n 0, 1) := by decide +kernel
theorem d_M_goes_28 : decode b_M_goes 28 = .ok (.getfield 113, 3) := by decide +kernel
theorem d_M_goes_31 : decode b_M_goes 31 = .ok (.iload_n 2, 1) := by decide +kernel
theorem d_M_goes_32 : decode b_M_goes 32 = .ok (.iadd, 1) := by decide +kernel
theorem d_M_goes_33 : decode b_M_goes 33 = .ok (.iaload, 1) := by decide +kernel
theorem d_M_goes_34 : decode b_M_goes 34 = .ok (.aload_n 1, 1) := by decide +kernel
theorem d_M_goes_35 : decode b_M_goes 35 = .ok (.iload_n 2, 1) := by decide +kernel
theorem d_M_goes_36 : decode b_M_goes 36 = .ok (.invokevirtual 129, 3) := by decide +kernel
theorem d_M_goes_39 : decode b_M_goes 39 = .ok (.if_icmp .ne 9, 3) := by decide +kernel
theorem d_M_goes_42 : decode b_M_goes 42 = .ok (.iinc 2 1, 3) := by decide +kernel
theorem d_M_goes_45 : decode b_M_goes 45 = .ok (.goto (-43), 3) := by decide +kernel
theorem d_M_goes_48 : decode b_M_goes 48 = .ok (.iload_n 2, 1) := by decide +kernel
theorem d_M_goes_49 : decode b_M_goes 49 = .ok (.ireturn, 1) := by decide +kernel
theorem d_M_wordHere_0 : decode b_M_wordHere 0 = .ok (.iconst 0, 1) := by decide +kernel
theorem d_M_wordHere_1 : decode b_M_wordHere 1 = .ok (.istore_n 1, 1) := by decide +kernel
theorem d_M_wordHere_2 : decode b_M_wordHere 2 = .ok (.iconst 0, 1) := by decide +kernel
theorem d_M_wordHere_3 : decode b_M_wordHere 3 = .ok (.istore_n 2, 1) := by decide +kernel
theorem d_M_wordHere_4 : decode b_M_wordHere 4 = .ok (.iload_n 2, 1) := by decide +kernel
theorem d_M_wordHere_5 : decode b_M_wordHere 5 = .ok (.bipush 14, 2) := by decide +kernel
theorem d_M_wordHere_7 : decode b_M_wordHere 7 = .ok (.if_icmp .gt 52, 3) := by decide +kernel
theorem d_M_wordHere_10 : decode b_M_wordHere 10 = .ok (.aload_n 0, 1) := by decide +kernel
theorem d_M_wordHere_11 : decode b_M_wordHere 11 = .ok (.iload_n 2, 1) := by decide +kernel
theorem d_M_wordHere_12 : decode b_M_wordHere 12 = .ok (.invokestatic 133, 3) := by decide +kernel
theorem d_M_wordHere_15 : decode b_M_wordHere 15 = .ok (.invokevirtual 137, 3) := by decide +kernel
theorem d_M_wordHere_18 : decode b_M_wordHere 18 = .ok (.istore_n 3, 1) := by decide +kernel
theorem d_M_wordHere_19 : decode b_M_wordHere 19 = .ok (.iload_n 3, 1) := by decide +kernel
theorem d_M_wordHere_20 : decode b_M_wordHere 20 = .ok (.iload_n 2, 1) := by decide +kernel
theorem d_M_wordHere_21 : decode b_M_wordHere 21 = .ok (.invokestatic 133, 3) := by decide +kernel
theorem d_M_wordHere_24 : decode b_M_wordHere 24 = .ok (.invokevirtual 123, 3) := by decide +kernel
theorem d_M_wordHere_27 : decode b_M_wordHere 27 = .ok (.if_icmp .ne 15, 3) := by decide +kernel
theorem d_M_wordHere_30 : decode b_M_wordHere 30 = .ok (.aload_n 0, 1) := by decide +kernel
theorem d_M_wordHere_31 : decode b_M_wordHere 31 = .ok (.dup, 1) := by decide +kernel
theorem d_M_wordHere_32 : decode b_M_wordHere 32 = .ok (.getfield 113, 3) := by decide +kernel
theorem d_M_wordHere_35 : decode b_M_wordHere 35 = .ok (.iload_n 3, 1) := by decide +kernel
theorem d_M_wordHere_36 : decode b_M_wordHere 36 = .ok (.iadd, 1) := by decide +kernel
theorem d_M_wordHere_37 : decode b_M_wordHere 37 = .ok (.putfield 113, 3) := by decide +kernel
theorem d_M_wordHere_40 : decode b_M_wordHere 40 = .ok (.iload_n 2, 1) := by decide +kernel
theorem d_M_wordHere_41 : decode b_M_wordHere 41 = .ok (.ireturn, 1) := by decide +kernel
theorem d_M_wordHere_42 : decode b_M_wordHere 42 = .ok (.iload_n 3, 1) := by decide +kernel
theorem d_M_wordHere_43 : decode b_M_wordHere 43 = .ok (.iload_n 1, 1) := by decide +kernel
theorem d_M_wordHere_44 : decode b_M_wordHere 44 = .ok (.if_icmp .le 7, 3) := by decide +kernel
theorem d_M_wordHere_47 : decode b_M_wordHere 47 = .ok (.iload_n 3, 1) := by decide +kernel
theorem d_M_wordHere_48 : decode b_M_wordHere 48 = .ok (.goto 4, 3) := by decide +kernel
theorem d_M_wordHere_51 : decode b_M_wordHere 51 = .ok (.iload_n 1, 1) := by decide +kernel
theorem d_M_wordHere_52 : decode b_M_wordHere 52 = .ok (.istore_n 1, 1) := by decide +kernel
theorem d_M_wordHere_53 : decode b_M_wordHere 53 = .ok (.iinc 2 1, 3) := by decide +kernel
theorem d_M_wordHere_56 : decode b_M_wordHere 56 = .ok (.goto (-52), 3) := by decide +kernel
theorem d_M_wordHere_59 : decode b_M_wordHere 59 = .ok (.aload_n 0, 1) := by decide +kernel
theorem d_M_wordHere_60 : decode b_M_wordHere 60 = .ok (.aload_n 0, 1) := by decide +kernel
theorem d_M_wordHere_61 : decode b_M_wordHere 61 = .ok (.getfield 113, 3) := by decide +kernel
theorem d_M_wordHere_64 : decode b_M_wordHere 64 = .ok (.iload_n 1, 1) := by decide +kernel
theorem d_M_wordHere_65 : decode b_M_wordHere 65 = .ok (.iadd, 1) := by decide +kernel
theorem d_M_wordHere_66 : decode b_M_wordHere 66 = .ok (.putfield 116, 3) := by decide +kernel
theorem d_M_wordHere_69 : decode b_M_wordHere 69 = .ok (.iconst 0, 1) := by decide +kernel
theorem d_M_wordHere_70 : decode b_M_wordHere 70 = .ok (.ireturn, 1) := by decide +kernel
theorem d_M_digit_0 : decode b_M_digit 0 = .ok (.aload_n 0, 1) := by decide +kernel
theorem d_M_digit_1 : decode b_M_digit 1 = .ok (.bipush 32, 2) := by decide +kernel
theorem d_M_digit_3 : decode b_M_digit 3 = .ok (.bipush 32, 2) := by decide +kernel
theorem d_M_digit_5 : decode b_M_digit 5 = .ok (.invokevirtual 141, 3) := by decide +kernel
theorem d_M_digit_8 : decode b_M_digit 8 = .ok (.pop, 1) := by decide +kernel
theorem d_M_digit_9 : decode b_M_digit 9 = .ok (.aload_n 0, 1) := by decide +kernel
theorem d_M_digit_10 : decode b_M_digit 10 = .ok (.bipush 48, 2) := by decide +kernel
theorem d_M_digit_12 : decode b_M_digit 12 = .ok (.bipush 48, 2) := by decide +kernel
theorem d_M_digit_14 : decode b_M_digit 14 = .ok (.iload_n 1, 1) := by decide +kernel
theorem d_M_digit_15 : decode b_M_digit 15 = .ok (.iadd, 1) := by decide +kernel
theorem d_M_digit_16 : decode b_M_digit 16 = .ok (.invokevirtual 141, 3) := by decide +kernel
theorem d_M_digit_19 : decode b_M_digit 19 = .ok (.bipush 48, 2) := by decide +kernel
theorem d_M_digit_21 : decode b_M_digit 21 = .ok (.isub, 1) := by decide +kernel
theorem d_M_digit_22 : decode b_M_digit 22 = .ok (.ireturn, 1) := by decide +kernel
theorem d_M_line_0 : decode b_M_line 0 = .ok (.aload_n 0, 1) := by decide +kernel
theorem d_M_line_1 : decode b_M_line 1 = .ok (.invokevirtual 145, 3) := by decide +kernel
theorem d_M_line_4 : decode b_M_line 4 = .ok (.istore_n 2, 1) := by decide +kernel
theorem d_M_line_5 : decode b_M_line 5 = .ok (.aload_n 0, 1) := by decide +kernel
theorem d_M_line_6 : decode b_M_line 6 = .ok (.iconst 1, 1) := by decide +kernel
theorem d_M_line_7 : decode b_M_line 7 = .ok (.invokevirtual 148, 3) := by decide +kernel
theorem d_M_line_10 : decode b_M_line 10 = .ok (.istore_n 3, 1) := by decide +kernel
theorem d_M_line_11 : decode b_M_line 11 = .ok (.aload_n 0, 1) := by decide +kernel
theorem d_M_line_12 : decode b_M_line 12 = .ok (.iconst 3, 1) := by decide +kernel
theorem d_M_line_13 : decode b_M_line 13 = .ok (.invokevirtual 148, 3) := by decide +kernel
theorem d_M_line_16 : decode b_M_line 16 = .ok (.istore 4, 2) := by decide +kernel
theorem d_M_line_18 : decode b_M_line 18 = .ok (.aload_n 0, 1) := by decide +kernel
theorem d_M_line_19 : decode b_M_line 19 = .ok (.iconst 3, 1) := by decide +kernel
theorem d_M_line_20 : decode b_M_line 20 = .ok (.invokevirtual 148, 3) := by decide +kernel
theorem d_M_line_23 : decode b_M_line 23 = .ok (.istore 5, 2) := by decide +kernel
theorem d_M_line_25 : decode b_M_line 25 = .ok (.aload_n 0, 1) := by decide +kernel
theorem d_M_line_26 : decode b_M_line 26 = .ok (.bipush 32, 2) := by decide +kernel
theorem d_M_line_28 : decode b_M_line 28 = .ok (.bipush 32, 2) := by decide +kernel
theorem d_M_line_30 : decode b_M_line 30 = .ok (.invokevirtual 141, 3) := by decide +kernel
theorem d_M_line_33 : decode b_M_line 33 = .ok (.pop, 1) := by decide +kernel
theorem d_M_line_34 : decode b_M_line 34 = .ok (.aload_n 0, 1) := by decide +kernel
theorem d_M_line_35 : decode b_M_line 35 = .ok (.getfield 116, 3) := by decide +kernel
theorem d_M_line_38 : decode b_M_line 38 = .ok (.ifCond .ge 18, 3) := by decide +kernel
theorem d_M_line_41 : decode b_M_line 41 = .ok (.aload_n 0, 1) := by decide +kernel
theorem d_M_line_42 : decode b_M_line 42 = .ok (.bipush 45, 2) := by decide +kernel
theorem d_M_line_44 : decode b_M_line 44 = .ok (.bipush 45, 2) := by decide +kernel
theorem d_M_line_46 : decode b_M_line 46 = .ok (.invokevirtual 119, 3) := by decide +kernel
theorem d_M_line_49 : decode b_M_line 49 = .ok (.ifCond .eq 7, 3) := by decide +kernel
theorem d_M_line_52 : decode b_M_line 52 = .ok (.iconst 1, 1) := by decide +kernel
theorem d_M_line_53 : decode b_M_line 53 = .ok (.goto 4, 3) := by decide +kernel
theorem d_M_line_56 : decode b_M_line 56 = .ok (.iconst 0, 1) := by decide +kernel
theorem d_M_line_57 : decode b_M_line 57 = .ok (.istore 6, 2) := by decide +kernel
theorem d_M_line_59 : decode b_M_line 59 = .ok (.aload_n 0, 1) := by decide +kernel
theorem d_M_line_60 : decode b_M_line 60 = .ok (.dup, 1) := by decide +kernel
theorem d_M_line_61 : decode b_M_line 61 = .ok (.getfield 113, 3) := by decide +kernel
theorem d_M_line_64 : decode b_M_line 64 = .ok (.iload 6, 2) := by decide +kernel
theorem d_M_line_66 : decode b_M_line 66 = .ok (.ifCond .eq 7, 3) := by decide +kernel
theorem d_M_line_69 : decode b_M_line 69 = .ok (.iconst 1, 1) := by decide +kernel
theorem d_M_line_70 : decode b_M_line 70 = .ok (.goto 4, 3) := by decide +kernel
theorem d_M_line_73 : decode b_M_line 73 = .ok (.iconst 0, 1) := by decide +kernel
theorem d_M_line_74 : decode b_M_line 74 = .ok (.iadd, 1) := by decide +kernel
theorem d_M_line_75 : decode b_M_line 75 = .ok (.putfield 113, 3) := by decide +kernel
theorem d_M_line_78 : decode b_M_line 78 = .ok (.aload_n 0, 1) := by decide +kernel
theorem d_M_line_79 : decode b_M_line 79 = .ok (.bipush 48, 2) := by decide +kernel
theorem d_M_line_81 : decode b_M_line 81 = .ok (.bipush 57, 2) := by decide +kernel
theorem d_M_line_83 : decode b_M_line 83 = .ok (.invokevirtual 141, 3) := by decide +kernel
theorem d_M_line_86 : decode b_M_line 86 = .ok (.bipush 48, 2) := by decide +kernel
theorem d_M_line_88 : decode b_M_line 88 = .ok (.isub, 1) := by decide +kernel
theorem d_M_line_89 : decode b_M_line 89 = .ok (.istore 7, 2) := by decide +kernel
theorem d_M_line_91 : decode b_M_line 91 = .ok (.iload_n 1, 1) := by decide +kernel
theorem d_M_line_92 : decode b_M_line 92 = .ok (.ifCond .eq 27, 3) := by decide +kernel
theorem d_M_line_95 : decode b_M_line 95 = .ok (.aload_n 0, 1) := by decide +kernel
theorem d_M_line_96 : decode b_M_line 96 = .ok (.iload_n 2, 1) := by decide +kernel
theorem d_M_line_97 : decode b_M_line 97 = .ok (.iload_n 3, 1) := by decide +kernel
theorem d_M_line_98 : decode b_M_line 98 = .ok (.iload 4, 2) := by decide +kernel
theorem d_M_line_100 : decode b_M_line 100 = .ok (.iload 5, 2) := by decide +kernel
theorem d_M_line_102 : decode b_M_line 102 = .ok (.iload 6, 2) := by decide +kernel
theorem d_M_line_104 : decode b_M_line 104 = .ok (.ifCond .eq 9, 3) := by decide +kernel
theorem d_M_line_107 : decode b_M_line 107 = .ok (.iload 7, 2) := by decide +kernel
theorem d_M_line_109 : decode b_M_line 109 = .ok (.ineg, 1) := by decide +kernel
theorem d_M_line_110 : decode b_M_line 110 = .ok (.goto 5, 3) := by decide +kernel
theorem d_M_line_113 : decode b_M_line 113 = .ok (.iload 7, 2) := by decide +kernel
theorem d_M_line_115 : decode b_M_line 115 = .ok (.invokevirtual 77, 3) := by decide +kernel
theorem d_M_line_118 : decode b_M_line 118 = .ok (.pop, 1) := by decide +kernel
theorem d_M_line_119 : decode b_M_line 119 = .ok (.return_, 1) := by decide +kernel
theorem d_M_lines_0 : decode b_M_lines 0 = .ok (.aload_n 0, 1) := by decide +kernel
theorem d_M_lines_1 : decode b_M_lines 1 = .ok (.iconst 0, 1) := by decide +kernel
theorem d_M_lines_2 : decode b_M_lines 2 = .ok (.putfield 113, 3) := by decide +kernel
theorem d_M_lines_5 : decode b_M_lines 5 = .ok (.aload_n 0, 1) := by decide +kernel
theorem d_M_lines_6 : decode b_M_lines 6 = .ok (.iconst (-1), 1) := by decide +kernel
theorem d_M_lines_7 : decode b_M_lines 7 = .ok (.putfield 116, 3) := by decide +kernel
theorem d_M_lines_10 : decode b_M_lines 10 = .ok (.iconst 1, 1) := by decide +kernel
theorem d_M_lines_11 : decode b_M_lines 11 = .ok (.istore_n 2, 1) := by decide +kernel
theorem d_M_lines_12 : decode b_M_lines 12 = .ok (.aload_n 0, 1) := by decide +kernel
theorem d_M_lines_13 : decode b_M_lines 13 = .ok (.iload_n 1, 1) := by decide +kernel
theorem d_M_lines_14 : decode b_M_lines 14 = .ok (.invokevirtual 152, 3) := by decide +kernel
theorem d_M_lines_17 : decode b_M_lines 17 = .ok (.aload_n 0, 1) := by decide +kernel
theorem d_M_lines_18 : decode b_M_lines 18 = .ok (.getfield 116, 3) := by decide +kernel
theorem d_M_lines_21 : decode b_M_lines 21 = .ok (.ifCond .ge 41, 3) := by decide +kernel
theorem d_M_lines_24 : decode b_M_lines 24 = .ok (.aload_n 0, 1) := by decide +kernel
theorem d_M_lines_25 : decode b_M_lines 25 = .ok (.getfield 113, 3) := by decide +kernel
theorem d_M_lines_28 : decode b_M_lines 28 = .ok (.aload_n 0, 1) := by decide +kernel
theorem d_M_lines_29 : decode b_M_lines 29 = .ok (.getfield 81, 3) := by decide +kernel
theorem d_M_lines_32 : decode b_M_lines 32 = .ok (.if_icmp .ge 30, 3) := by decide +kernel
theorem d_M_lines_35 : decode b_M_lines 35 = .ok (.aload_n 0, 1) := by decide +kernel
theorem d_M_lines_36 : decode b_M_lines 36 = .ok (.bipush 59, 2) := by decide +kernel
theorem d_M_lines_38 : decode b_M_lines 38 = .ok (.bipush 59, 2) := by decide +kernel
theorem d_M_lines_40 : decode b_M_lines 40 = .ok (.invokevirtual 141, 3) := by decide +kernel
theorem d_M_lines_43 : decode b_M_lines 43 = .ok (.pop, 1) := by decide +kernel
theorem d_M_lines_44 : decode b_M_lines 44 = .ok (.aload_n 0, 1) := by decide +kernel
theorem d_M_lines_45 : decode b_M_lines 45 = .ok (.getfield 116, 3) := by decide +kernel
theorem d_M_lines_48 : decode b_M_lines 48 = .ok (.ifCond .ge (-31), 3) := by decide +kernel
theorem d_M_lines_51 : decode b_M_lines 51 = .ok (.aload_n 0, 1) := by decide +kernel
theorem d_M_lines_52 : decode b_M_lines 52 = .ok (.iload_n 1, 1) := by decide +kernel
theorem d_M_lines_53 : decode b_M_lines 53 = .ok (.invokevirtual 152, 3) := by decide +kernel
theorem d_M_lines_56 : decode b_M_lines 56 = .ok (.iinc 2 1, 3) := by decide +kernel
theorem d_M_lines_59 : decode b_M_lines 59 = .ok (.goto (-42), 3) := by decide +kernel
theorem d_M_lines_62 : decode b_M_lines 62 = .ok (.iload_n 2, 1) := by decide +kernel
theorem d_M_lines_63 : decode b_M_lines 63 = .ok (.ireturn, 1) := by decide +kernel
theorem d_M_deck_0 : decode b_M_deck 0 = .ok (.aload_n 0, 1) := by decide +kernel
theorem d_M_deck_1 : decode b_M_deck 1 = .ok (.iconst 0, 1) := by decide +kernel
theorem d_M_deck_2 : decode b_M_deck 2 = .ok (.invokevirtual 156, 3) := by decide +kernel
theorem d_M_deck_5 : decode b_M_deck 5 = .ok (.istore_n 1, 1) := by decide +kernel
theorem d_M_deck_6 : decode b_M_deck 6 = .ok (.aload_n 0, 1) := by decide +kernel
theorem d_M_deck_7 : decode b_M_deck 7 = .ok (.getfield 116, 3) := by decide +kernel
theorem d_M_deck_10 : decode b_M_deck 10 = .ok (.ifCond .ge 18, 3) := by decide +kernel
theorem d_M_deck_13 : decode b_M_deck 13 = .ok (.aload_n 0, 1) := by decide +kernel
theorem d_M_deck_14 : decode b_M_deck 14 = .ok (.getfield 70, 3) := by decide +kernel
theorem d_M_deck_17 : decode b_M_deck 17 = .ok (.iload_n 1, 1) := by decide +kernel
theorem d_M_deck_18 : decode b_M_deck 18 = .ok (.iadd, 1) := by decide +kernel
theorem d_M_deck_19 : decode b_M_deck 19 = .ok (.bipush 24, 2) := by decide +kernel
theorem d_M_deck_21 : decode b_M_deck 21 = .ok (.if_icmp .gt 7, 3) := by decide +kernel
theorem d_M_deck_24 : decode b_M_deck 24 = .ok (.iconst 1, 1) := by decide +kernel
theorem d_M_deck_25 : decode b_M_deck 25 = .ok (.goto 4, 3) := by decide +kernel
theorem d_M_deck_28 : decode b_M_deck 28 = .ok (.iconst 0, 1) := by decide +kernel
theorem d_M_deck_29 : decode b_M_deck 29 = .ok (.istore_n 2, 1) := by decide +kernel
theorem d_M_deck_30 : decode b_M_deck 30 = .ok (.aload_n 0, 1) := by decide +kernel
theorem d_M_deck_31 : decode b_M_deck 31 = .ok (.getfield 116, 3) := by decide +kernel
theorem d_M_deck_34 : decode b_M_deck 34 = .ok (.istore_n 3, 1) := by decide +kernel
theorem d_M_deck_35 : decode b_M_deck 35 = .ok (.iload_n 2, 1) := by decide +kernel
theorem d_M_deck_36 : decode b_M_deck 36 = .ok (.ifCond .eq 9, 3) := by decide +kernel
theorem d_M_deck_39 : decode b_M_deck 39 = .ok (.aload_n 0, 1) := by decide +kernel
theorem d_M_deck_40 : decode b_M_deck 40 = .ok (.iconst 1, 1) := by decide +kernel
theorem d_M_deck_41 : decode b_M_deck 41 = .ok (.invokevirtual 156, 3) := by decide +kernel
theorem d_M_deck_44 : decode b_M_deck 44 = .ok (.pop, 1) := by decide +kernel
theorem d_M_deck_45 : decode b_M_deck 45 = .ok (.aload_n 0, 1) := by decide +kernel
theorem d_M_deck_46 : decode b_M_deck 46 = .ok (.iconst 0, 1) := by decide +kernel
theorem d_M_deck_47 : decode b_M_deck 47 = .ok (.putfield 81, 3) := by decide +kernel
theorem d_M_deck_50 : decode b_M_deck 50 = .ok (.iload_n 3, 1) := by decide +kernel
theorem d_M_deck_51 : decode b_M_deck 51 = .ok (.ifCond .lt 10, 3) := by decide +kernel
theorem d_M_deck_54 : decode b_M_deck 54 = .ok (.bipush (-100), 2) := by decide +kernel
theorem d_M_deck_56 : decode b_M_deck 56 = .ok (.iload_n 3, 1) := by decide +kernel
theorem d_M_deck_57 : decode b_M_deck 57 = .ok (.isub, 1) := by decide +kernel
theorem d_M_deck_58 : decode b_M_deck 58 = .ok (.goto 13, 3) := by decide +kernel
theorem d_M_deck_61 : decode b_M_deck 61 = .ok (.iload_n 2, 1) := by decide +kernel
theorem d_M_deck_62 : decode b_M_deck 62 = .ok (.ifCond .eq 7, 3) := by decide +kernel
theorem d_M_deck_65 : decode b_M_deck 65 = .ok (.iload_n 1, 1) := by decide +kernel
theorem d_M_deck_66 : decode b_M_deck 66 = .ok (.goto 5, 3) := by decide +kernel
theorem d_M_deck_69 : decode b_M_deck 69 = .ok (.bipush (-3), 2) := by decide +kernel
theorem d_M_deck_71 : decode b_M_deck 71 = .ok (.ireturn, 1) := by decide +kernel
theorem d_M_of_0 : decode b_M_of 0 = .ok (.aload_n 0, 1) := by decide +kernel
theorem d_M_of_1 : decode b_M_of 1 = .ok (.iload_n 1, 1) := by decide +kernel
theorem d_M_of_2 : decode b_M_of 2 = .ok (.invokevirtual 160, 3) := by decide +kernel
theorem d_M_of_5 : decode b_M_of 5 = .ok (.ifCond .ne 5, 3) := by decide +kernel
theorem d_M_of_8 : decode b_M_of 8 = .ok (.iconst (-1), 1) := by decide +kernel
theorem d_M_of_9 : decode b_M_of 9 = .ok (.ireturn, 1) := by decide +kernel
theorem d_M_of_10 : decode b_M_of 10 = .ok (.iload_n 2, 1) := by decide +kernel
theorem d_M_of_11 : decode b_M_of 11 = .ok (.tableswitch 113 0 6 #[41, 48, 55, 62, 69, 79, 89], 41) := by decide +kernel
theorem d_M_of_52 : decode b_M_of 52 = .ok (.aload_n 0, 1) := by decide +kernel
theorem d_M_of_53 : decode b_M_of 53 = .ok (.getfield 9, 3) := by decide +kernel
theorem d_M_of_56 : decode b_M_of 56 = .ok (.iload_n 1, 1) := by decide +kernel
theorem d_M_of_57 : decode b_M_of 57 = .ok (.iaload, 1) := by decide +kernel
theorem d_M_of_58 : decode b_M_of 58 = .ok (.ireturn, 1) := by decide +kernel
theorem d_M_of_59 : decode b_M_of 59 = .ok (.aload_n 0, 1) := by decide +kernel
theorem d_M_of_60 : decode b_M_of 60 = .ok (.getfield 13, 3) := by decide +kernel
theorem d_M_of_63 : decode b_M_of 63 = .ok (.iload_n 1, 1) := by decide +kernel
theorem d_M_of_64 : decode b_M_of 64 = .ok (.iaload, 1) := by decide +kernel
theorem d_M_of_65 : decode b_M_of 65 = .ok (.ireturn, 1) := by decide +kernel
theorem d_M_of_66 : decode b_M_of 66 = .ok (.aload_n 0, 1) := by decide +kernel
theorem d_M_of_67 : decode b_M_of 67 = .ok (.getfield 16, 3) := by decide +kernel
theorem d_M_of_70 : decode b_M_of 70 = .ok (.iload_n 1, 1) := by decide +kernel
theorem d_M_of_71 : decode b_M_of 71 = .ok (.iaload, 1) := by decide +kernel
theorem d_M_of_72 : decode b_M_of 72 = .ok (.ireturn, 1) := by decide +kernel
theorem d_M_of_73 : decode b_M_of 73 = .ok (.aload_n 0, 1) := by decide +kernel
theorem d_M_of_74 : decode b_M_of 74 = .ok (.getfield 19, 3) := by decide +kernel
theorem d_M_of_77 : decode b_M_of 77 = .ok (.iload_n 1, 1) := by decide +kernel
theorem d_M_of_78 : decode b_M_of 78 = .ok (.iaload, 1) := by decide +kernel
theorem d_M_of_79 : decode b_M_of 79 = .ok (.ireturn, 1) := by decide +kernel
theorem d_M_of_80 : decode b_M_of 80 = .ok (.aload_n 0, 1) := by decide +kernel
theorem d_M_of_81 : decode b_M_of 81 = .ok (.getfield 22, 3) := by decide +kernel
theorem d_M_of_84 : decode b_M_of 84 = .ok (.iload_n 1, 1) := by decide +kernel
theorem d_M_of_85 : decode b_M_of 85 = .ok (.iaload, 1) := by decide +kernel
theorem d_M_of_86 : decode b_M_of 86 = .ok (.bipush 10, 2) := by decide +kernel
theorem d_M_of_88 : decode b_M_of 88 = .ok (.iadd, 1) := by decide +kernel
theorem d_M_of_89 : decode b_M_of 89 = .ok (.ireturn, 1) := by decide +kernel
theorem d_M_of_90 : decode b_M_of 90 = .ok (.aload_n 0, 1) := by decide +kernel
theorem d_M_of_91 : decode b_M_of 91 = .ok (.getfield 25, 3) := by decide +kernel
theorem d_M_of_94 : decode b_M_of 94 = .ok (.bipush 71, 2) := by decide +kernel
theorem d_M_of_96 : decode b_M_of 96 = .ok (.iload_n 1, 1) := by decide +kernel
theorem d_M_of_97 : decode b_M_of 97 = .ok (.iadd, 1) := by decide +kernel
theorem d_M_of_98 : decode b_M_of 98 = .ok (.iaload, 1) := by decide +kernel
theorem d_M_of_99 : decode b_M_of 99 = .ok (.ireturn, 1) := by decide +kernel
theorem d_M_of_100 : decode b_M_of 100 = .ok (.aload_n 0, 1) := by decide +kernel
theorem d_M_of_101 : decode b_M_of 101 = .ok (.iload_n 1, 1) := by decide +kernel
theorem d_M_of_102 : decode b_M_of 102 = .ok (.iconst 3, 1) := by decide +kernel
theorem d_M_of_103 : decode b_M_of 103 = .ok (.invokevirtual 164, 3) := by decide +kernel
theorem d_M_of_106 : decode b_M_of 106 = .ok (.ifCond .eq 15, 3) := by decide +kernel
theorem d_M_of_109 : decode b_M_of 109 = .ok (.aload_n 0, 1) := by decide +kernel
theorem d_M_of_110 : decode b_M_of 110 = .ok (.getfield 25, 3) := by decide +kernel
theorem d_M_of_113 : decode b_M_of 113 = .ok (.bipush 95, 2) := by decide +kernel
theorem d_M_of_115 : decode b_M_of 115 = .ok (.iload_n 1, 1) := by decide +kernel
theorem d_M_of_116 : decode b_M_of 116 = .ok (.iadd, 1) := by decide +kernel
theorem d_M_of_117 : decode b_M_of 117 = .ok (.iaload, 1) := by decide +kernel
theorem d_M_of_118 : decode b_M_of 118 = .ok (.goto 5, 3) := by decide +kernel
theorem d_M_of_121 : decode b_M_of 121 = .ok (.bipush (-2), 2) := by decide +kernel
theorem d_M_of_123 : decode b_M_of 123 = .ok (.ireturn, 1) := by decide +kernel
theorem d_M_of_124 : decode b_M_of 124 = .ok (.iconst (-1), 1) := by decide +kernel
theorem d_M_of_125 : decode b_M_of 125 = .ok (.ireturn, 1) := by decide +kernel
theorem d_M_deal_0 : decode b_M_deal 0 = .ok (.aload_n 0, 1) := by decide +kernel
theorem d_M_deal_1 : decode b_M_deal 1 = .ok (.iload_n 1, 1) := by decide +kernel
theorem d_M_deal_2 : decode b_M_deal 2 = .ok (.invokevirtual 160, 3) := by decide +kernel
theorem d_M_deal_5 : decode b_M_deal 5 = .ok (.ifCond .ne 5, 3) := by decide +kernel
theorem d_M_deal_8 : decode b_M_deal 8 = .ok (.iconst (-1), 1) := by decide +kernel
theorem d_M_deal_9 : decode b_M_deal 9 = .ok (.ireturn, 1) := by decide +kernel
theorem d_M_deal_10 : decode b_M_deal 10 = .ok (.aload_n 0, 1) := by decide +kernel
theorem d_M_deal_11 : decode b_M_deal 11 = .ok (.iload_n 1, 1) := by decide +kernel
theorem d_M_deal_12 : decode b_M_deal 12 = .ok (.iconst 0, 1) := by decide +kernel
theorem d_M_deal_13 : decode b_M_deal 13 = .ok (.invokevirtual 164, 3) := by decide +kernel
theorem d_M_deal_16 : decode b_M_deal 16 = .ok (.ifCond .ne 6, 3) := by decide +kernel
theorem d_M_deal_19 : decode b_M_deal 19 = .ok (.bipush (-5), 2) := by decide +kernel
theorem d_M_deal_21 : decode b_M_deal 21 = .ok (.ireturn, 1) := by decide +kernel
theorem d_M_deal_22 : decode b_M_deal 22 = .ok (.aload_n 0, 1) := by decide +kernel
theorem d_M_deal_23 : decode b_M_deal 23 = .ok (.getfield 25, 3) := by decide +kernel
theorem d_M_deal_26 : decode b_M_deal 26 = .ok (.bipush 71, 2) := by decide +kernel
theorem d_M_deal_28 : decode b_M_deal 28 = .ok (.iload_n 1, 1) := by decide +kernel
theorem d_M_deal_29 : decode b_M_deal 29 = .ok (.iadd, 1) := by decide +kernel
theorem d_M_deal_30 : decode b_M_deal 30 = .ok (.iconst 1, 1) := by decide +kernel
theorem d_M_deal_31 : decode b_M_deal 31 = .ok (.iastore, 1) := by decide +kernel
theorem d_M_deal_32 : decode b_M_deal 32 = .ok (.iconst 1, 1) := by decide +kernel
theorem d_M_deal_33 : decode b_M_deal 33 = .ok (.ireturn, 1) := by decide +kernel
theorem d_M_base_0 : decode b_M_base 0 = .ok (.iload_n 1, 1) := by decide +kernel
theorem d_M_base_1 : decode b_M_base 1 = .ok (.iconst 0, 1) := by decide +kernel
theorem d_M_base_2 : decode b_M_base 2 = .ok (.iconst 3, 1) := by decide +kernel
theorem d_M_base_3 : decode b_M_base 3 = .ok (.invokestatic 73, 3) := by decide +kernel
theorem d_M_base_6 : decode b_M_base 6 = .ok (.ifCond .eq 14, 3) := by decide +kernel
theorem d_M_base_9 : decode b_M_base 9 = .ok (.iload_n 2, 1) := by decide +kernel
theorem d_M_base_10 : decode b_M_base 10 = .ok (.bipush (-99), 2) := by decide +kernel
theorem d_M_base_12 : decode b_M_base 12 = .ok (.bipush 99, 2) := by decide +kernel
theorem d_M_base_14 : decode b_M_base 14 = .ok (.invokestatic 73, 3) := by decide +kernel
theorem d_M_base_17 : decode b_M_base 17 = .ok (.ifCond .ne 6, 3) := by decide +kernel
theorem d_M_base_20 : decode b_M_base 20 = .ok (.ldc 167, 2) := by decide +kernel
theorem d_M_base_22 : decode b_M_base 22 = .ok (.ireturn, 1) := by decide +kernel
theorem d_M_base_23 : decode b_M_base 23 = .ok (.aload_n 0, 1) := by decide +kernel
theorem d_M_base_24 : decode b_M_base 24 = .ok (.getfield 25, 3) := by decide +kernel
theorem d_M_base_27 : decode b_M_base 27 = .ok (.bipush 119, 2) := by decide +kernel
theorem d_M_base_29 : decode b_M_base 29 = .ok (.iload_n 1, 1) := by decide +kernel
theorem d_M_base_30 : decode b_M_base 30 = .ok (.iadd, 1) := by decide +kernel
theorem d_M_base_31 : decode b_M_base 31 = .ok (.iaload, 1) := by decide +kernel
theorem d_M_base_32 : decode b_M_base 32 = .ok (.istore_n 3, 1) := by decide +kernel
theorem d_M_base_33 : decode b_M_base 33 = .ok (.aload_n 0, 1) := by decide +kernel
theorem d_M_base_34 : decode b_M_base 34 = .ok (.getfield 25, 3) := by decide +kernel
theorem d_M_base_37 : decode b_M_base 37 = .ok (.bipush 119, 2) := by decide +kernel
theorem d_M_base_39 : decode b_M_base 39 = .ok (.iload_n 1, 1) := by decide +kernel
theorem d_M_base_40 : decode b_M_base 40 = .ok (.iadd, 1) := by decide +kernel
theorem d_M_base_41 : decode b_M_base 41 = .ok (.iload_n 2, 1) := by decide +kernel
theorem d_M_base_42 : decode b_M_base 42 = .ok (.iastore, 1) := by decide +kernel
theorem d_M_base_43 : decode b_M_base 43 = .ok (.iload_n 3, 1) := by decide +kernel
theorem d_M_base_44 : decode b_M_base 44 = .ok (.ireturn, 1) := by decide +kernel
theorem d_M_mend_0 : decode b_M_mend 0 = .ok (.iload_n 1, 1) := by decide +kernel
theorem d_M_mend_1 : decode b_M_mend 1 = .ok (.iconst 0, 1) := by decide +kernel
theorem d_M_mend_2 : decode b_M_mend 2 = .ok (.iconst 1, 1) := by decide +kernel
theorem d_M_mend_3 : decode b_M_mend 3 = .ok (.invokestatic 73, 3) := by decide +kernel
theorem d_M_mend_6 : decode b_M_mend 6 = .ok (.ifCond .eq 14, 3) := by decide +kernel
theorem d_M_mend_9 : decode b_M_mend 9 = .ok (.iload_n 2, 1) := by decide +kernel
theorem d_M_mend_10 : decode b_M_mend 10 = .ok (.bipush (-99), 2) := by decide +kernel
theorem d_M_mend_12 : decode b_M_mend 12 = .ok (.bipush 99, 2) := by decide +kernel
theorem d_M_mend_14 : decode b_M_mend 14 = .ok (.invokestatic 73, 3) := by decide +kernel
theorem d_M_mend_17 : decode b_M_mend 17 = .ok (.ifCond .ne 6, 3) := by decide +kernel
theorem d_M_mend_20 : decode b_M_mend 20 = .ok (.ldc 167, 2) := by decide +kernel
theorem d_M_mend_22 : decode b_M_mend 22 = .ok (.ireturn, 1) := by decide +kernel
theorem d_M_mend_23 : decode b_M_mend 23 = .ok (.aload_n 0, 1) := by decide +kernel
theorem d_M_mend_24 : decode b_M_mend 24 = .ok (.getfield 25, 3) := by decide +kernel
theorem d_M_mend_27 : decode b_M_mend 27 = .ok (.iconst 0, 1) := by decide +kernel
theorem d_M_mend_28 : decode b_M_mend 28 = .ok (.iload_n 1, 1) := by decide +kernel
theorem d_M_mend_29 : decode b_M_mend 29 = .ok (.iadd, 1) := by decide +kernel
theorem d_M_mend_30 : decode b_M_mend 30 = .ok (.iaload, 1) := by decide +kernel
theorem d_M_mend_31 : decode b_M_mend 31 = .ok (.istore_n 3, 1) := by decide +kernel
theorem d_M_mend_32 : decode b_M_mend 32 = .ok (.aload_n 0, 1) := by decide +kernel
theorem d_M_mend_33 : decode b_M_mend 33 = .ok (.getfield 25, 3) := by decide +kernel
theorem d_M_mend_36 : decode b_M_mend 36 = .ok (.iconst 0, 1) := by decide +kernel
theorem d_M_mend_37 : decode b_M_mend 37 = .ok (.iload_n 1, 1) := by decide +kernel
theorem d_M_mend_38 : decode b_M_mend 38 = .ok (.iadd, 1) := by decide +kernel
theorem d_M_mend_39 : decode b_M_mend 39 = .ok (.iload_n 2, 1) := by decide +kernel
theorem d_M_mend_40 : decode b_M_mend 40 = .ok (.iastore, 1) := by decide +kernel
theorem d_M_mend_41 : decode b_M_mend 41 = .ok (.iload_n 3, 1) := by decide +kernel
theorem d_M_mend_42 : decode b_M_mend 42 = .ok (.ireturn, 1) := by decide +kernel
theorem d_M_manyAt_0 : decode b_M_manyAt 0 = .ok (.iconst 0, 1) := by decide +kernel
theorem d_M_manyAt_1 : decode b_M_manyAt 1 = .ok (.istore_n 3, 1) := by decide +kernel
theorem d_M_manyAt_2 : decode b_M_manyAt 2 = .ok (.iconst 0, 1) := by decide +kernel
theorem d_M_manyAt_3 : decode b_M_manyAt 3 = .ok (.istore 4, 2) := by decide +kernel
theorem d_M_manyAt_5 : decode b_M_manyAt 5 = .ok (.iload 4, 2) := by decide +kernel
theorem d_M_manyAt_7 : decode b_M_manyAt 7 = .ok (.aload_n 0, 1) := by decide +kernel
theorem d_M_manyAt_8 : decode b_M_manyAt 8 = .ok (.getfield 70, 3) := by decide +kernel
theorem d_M_manyAt_11 : decode b_M_manyAt 11 = .ok (.if_icmp .ge 42, 3) := by decide +kernel
theorem d_M_manyAt_14 : decode b_M_manyAt 14 = .ok (.iload_n 3, 1) := by decide +kernel
theorem d_M_manyAt_15 : decode b_M_manyAt 15 = .ok (.iload_n 1, 1) := by decide +kernel
theorem d_M_manyAt_16 : decode b_M_manyAt 16 = .ok (.ifCond .lt 14, 3) := by decide +kernel
theorem d_M_manyAt_19 : decode b_M_manyAt 19 = .ok (.aload_n 0, 1) := by decide +kernel
theorem d_M_manyAt_20 : decode b_M_manyAt 20 = .ok (.getfield 13, 3) := by decide +kernel
theorem d_M_manyAt_23 : decode b_M_manyAt 23 = .ok (.iload 4, 2) := by decide +kernel
theorem d_M_manyAt_25 : decode b_M_manyAt 25 = .ok (.iaload, 1) := by decide +kernel
theorem d_M_manyAt_26 : decode b_M_manyAt 26 = .ok (.iload_n 1, 1) := by decide +kernel
theorem d_M_manyAt_27 : decode b_M_manyAt 27 = .ok (.if_icmp .ne 17, 3) := by decide +kernel
theorem d_M_manyAt_30 : decode b_M_manyAt 30 = .ok (.aload_n 0, 1) := by decide +kernel
theorem d_M_manyAt_31 : decode b_M_manyAt 31 = .ok (.iload 4, 2) := by decide +kernel
theorem d_M_manyAt_33 : decode b_M_manyAt 33 = .ok (.iload_n 2, 1) := by decide +kernel
theorem d_M_manyAt_34 : decode b_M_manyAt 34 = .ok (.invokevirtual 164, 3) := by decide +kernel
theorem d_M_manyAt_37 : decode b_M_manyAt 37 = .ok (.ifCond .eq 7, 3) := by decide +kernel
theorem d_M_manyAt_40 : decode b_M_manyAt 40 = .ok (.iconst 1, 1) := by decide +kernel
theorem d_M_manyAt_41 : decode b_M_manyAt 41 = .ok (.goto 4, 3) := by decide +kernel
theorem d_M_manyAt_44 : decode b_M_manyAt 44 = .ok (.iconst 0, 1) := by decide +kernel
theorem d_M_manyAt_45 : decode b_M_manyAt 45 = .ok (.iadd, 1) := by decide +kernel
theorem d_M_manyAt_46 : decode b_M_manyAt 46 = .ok (.istore_n 3, 1) := by decide +kernel
theorem d_M_manyAt_47 : decode b_M_manyAt 47 = .ok (.iinc 4 1, 3) := by decide +kernel
theorem d_M_manyAt_50 : decode b_M_manyAt 50 = .ok (.goto (-45), 3) := by decide +kernel
theorem d_M_manyAt_53 : decode b_M_manyAt 53 = .ok (.iload_n 3, 1) := by decide +kernel
theorem d_M_manyAt_54 : decode b_M_manyAt 54 = .ok (.ireturn, 1) := by decide +kernel
theorem d_M_player_0 : decode b_M_player 0 = .ok (.iload_n 1, 1) := by decide +kernel
theorem d_M_player_1 : decode b_M_player 1 = .ok (.iconst 0, 1) := by decide +kernel
theorem d_M_player_2 : decode b_M_player 2 = .ok (.iconst 1, 1) := by decide +kernel
theorem d_M_player_3 : decode b_M_player 3 = .ok (.invokestatic 73, 3) := by decide +kernel
theorem d_M_player_6 : decode b_M_player 6 = .ok (.ifCond .eq 12, 3) := by decide +kernel
theorem d_M_player_9 : decode b_M_player 9 = .ok (.iload_n 2, 1) := by decide +kernel
theorem d_M_player_10 : decode b_M_player 10 = .ok (.iconst 0, 1) := by decide +kernel
theorem d_M_player_11 : decode b_M_player 11 = .ok (.iconst 4, 1) := by decide +kernel
theorem d_M_player_12 : decode b_M_player 12 = .ok (.invokestatic 73, 3) := by decide +kernel
theorem d_M_player_15 : decode b_M_player 15 = .ok (.ifCond .ne 6, 3) := by decide +kernel
theorem d_M_player_18 : decode b_M_player 18 = .ok (.ldc 167, 2) := by decide +kernel
theorem d_M_player_20 : decode b_M_player 20 = .ok (.ireturn, 1) := by decide +kernel
theorem d_M_player_21 : decode b_M_player 21 = .ok (.iload_n 2, 1) := by decide +kernel
theorem d_M_player_22 : decode b_M_player 22 = .ok (.ifCond .ne 14, 3) := by decide +kernel
theorem d_M_player_25 : decode b_M_player 25 = .ok (.aload_n 0, 1) := by decide +kernel
theorem d_M_player_26 : decode b_M_player 26 = .ok (.getfield 25, 3) := by decide +kernel
theorem d_M_player_29 : decode b_M_player 29 = .ok (.iconst 0, 1) := by decide +kernel
theorem d_M_player_30 : decode b_M_player 30 = .ok (.iload_n 1, 1) := by decide +kernel
theorem d_M_player_31 : decode b_M_player 31 = .ok (.iadd, 1) := by decide +kernel
theorem d_M_player_32 : decode b_M_player 32 = .ok (.iaload, 1) := by decide +kernel
theorem d_M_player_33 : decode b_M_player 33 = .ok (.goto 36, 3) := by decide +kernel
theorem d_M_player_36 : decode b_M_player 36 = .ok (.aload_n 0, 1) := by decide +kernel
theorem d_M_player_37 : decode b_M_player 37 = .ok (.iload_n 1, 1) := by decide +kernel
theorem d_M_player_38 : decode b_M_player 38 = .ok (.iload_n 2, 1) := by decide +kernel
theorem d_M_player_39 : decode b_M_player 39 = .ok (.iconst 1, 1) := by decide +kernel
theorem d_M_player_40 : decode b_M_player 40 = .ok (.if_icmp .ne 7, 3) := by decide +kernel
theorem d_M_player_43 : decode b_M_player 43 = .ok (.iconst 0, 1) := by decide +kernel
theorem d_M_player_44 : decode b_M_player 44 = .ok (.goto 22, 3) := by decide +kernel
theorem d_M_player_47 : decode b_M_player 47 = .ok (.iload_n 2, 1) := by decide +kernel
theorem d_M_player_48 : decode b_M_player 48 = .ok (.iconst 2, 1) := by decide +kernel
theorem d_M_player_49 : decode b_M_player 49 = .ok (.if_icmp .ne 7, 3) := by decide +kernel
theorem d_M_player_52 : decode b_M_player 52 = .ok (.iconst 1, 1) := by decide +kernel
theorem d_M_player_53 : decode b_M_player 53 = .ok (.goto 13, 3) := by decide +kernel
theorem d_M_player_56 : decode b_M_player 56 = .ok (.iload_n 2, 1) := by decide +kernel
theorem d_M_player_57 : decode b_M_player 57 = .ok (.iconst 3, 1) := by decide +kernel
theorem d_M_player_58 : decode b_M_player 58 = .ok (.if_icmp .ne 7, 3) := by decide +kernel
theorem d_M_player_61 : decode b_M_player 61 = .ok (.iconst 3, 1) := by decide +kernel
theorem d_M_player_62 : decode b_M_player 62 = .ok (.goto 4, 3) := by decide +kernel
theorem d_M_player_65 : decode b_M_player 65 = .ok (.iconst 4, 1) := by decide +kernel
theorem d_M_player_66 : decode b_M_player 66 = .ok (.invokevirtual 168, 3) := by decide +kernel
theorem d_M_player_69 : decode b_M_player 69 = .ok (.ireturn, 1) := by decide +kernel
theorem d_M_isLayer_0 : decode b_M_isLayer 0 = .ok (.aload_n 0, 1) := by decide +kernel
theorem d_M_isLayer_1 : decode b_M_isLayer 1 = .ok (.iload_n 1, 1) := by decide +kernel
theorem d_M_isLayer_2 : decode b_M_isLayer 2 = .ok (.iconst 3, 1) := by decide +kernel
theorem d_M_isLayer_3 : decode b_M_isLayer 3 = .ok (.invokevirtual 164, 3) := by decide +kernel
theorem d_M_isLayer_6 : decode b_M_isLayer 6 = .ok (.ifCond .eq 17, 3) := by decide +kernel
theorem d_M_isLayer_9 : decode b_M_isLayer 9 = .ok (.aload_n 0, 1) := by decide +kernel
theorem d_M_isLayer_10 : decode b_M_isLayer 10 = .ok (.getfield 9, 3) := by decide +kernel
theorem d_M_isLayer_13 : decode b_M_isLayer 13 = .ok (.iload_n 1, 1) := by decide +kernel
theorem d_M_isLayer_14 : decode b_M_isLayer 14 = .ok (.iaload, 1) := by decide +kernel
theorem d_M_isLayer_15 : decode b_M_isLayer 15 = .ok (.iconst 4, 1) := by decide +kernel
theorem d_M_isLayer_16 : decode b_M_isLayer 16 = .ok (.if_icmp .gt 7, 3) := by decide +kernel
theorem d_M_isLayer_19 : decode b_M_isLayer 19 = .ok (.iconst 1, 1) := by decide +kernel
theorem d_M_isLayer_20 : decode b_M_isLayer 20 = .ok (.goto 4, 3) := by decide +kernel
theorem d_M_isLayer_23 : decode b_M_isLayer 23 = .ok (.iconst 0, 1) := by decide +kernel
theorem d_M_isLayer_24 : decode b_M_isLayer 24 = .ok (.ireturn, 1) := by decide +kernel
theorem d_M_hangs_0 : decode b_M_hangs 0 = .ok (.iload_n 1, 1) := by decide +kernel
theorem d_M_hangs_1 : decode b_M_hangs 1 = .ok (.iload_n 2, 1) := by decide +kernel
theorem d_M_hangs_2 : decode b_M_hangs 2 = .ok (.if_icmp .eq 42, 3) := by decide +kernel
theorem d_M_hangs_5 : decode b_M_hangs 5 = .ok (.aload_n 0, 1) := by decide +kernel
theorem d_M_hangs_6 : decode b_M_hangs 6 = .ok (.getfield 9, 3) := by decide +kernel
theorem d_M_hangs_9 : decode b_M_hangs 9 = .ok (.iload_n 1, 1) := by decide +kernel
theorem d_M_hangs_10 : decode b_M_hangs 10 = .ok (.iaload, 1) := by decide +kernel
theorem d_M_hangs_11 : decode b_M_hangs 11 = .ok (.iconst 3, 1) := by decide +kernel
theorem d_M_hangs_12 : decode b_M_hangs 12 = .ok (.if_icmp .eq 13, 3) := by decide +kernel
theorem d_M_hangs_15 : decode b_M_hangs 15 = .ok (.aload_n 0, 1) := by decide +kernel
theorem d_M_hangs_16 : decode b_M_hangs 16 = .ok (.getfield 9, 3) := by decide +kernel
theorem d_M_hangs_19 : decode b_M_hangs 19 = .ok (.iload_n 1, 1) := by decide +kernel
theorem d_M_hangs_20 : decode b_M_hangs 20 = .ok (.iaload, 1) := by decide +kernel
theorem d_M_hangs_21 : decode b_M_hangs 21 = .ok (.iconst 4, 1) := by decide +kernel
theorem d_M_hangs_22 : decode b_M_hangs 22 = .ok (.if_icmp .ne 22, 3) := by decide +kernel
theorem d_M_hangs_25 : decode b_M_hangs 25 = .ok (.aload_n 0, 1) := by decide +kernel
theorem d_M_hangs_26 : decode b_M_hangs 26 = .ok (.getfield 19, 3) := by decide +kernel
theorem d_M_hangs_29 : decode b_M_hangs 29 = .ok (.iload_n 1, 1) := by decide +kernel
theorem d_M_hangs_30 : decode b_M_hangs 30 = .ok (.iaload, 1) := by decide +kernel
theorem d_M_hangs_31 : decode b_M_hangs 31 = .ok (.aload_n 0, 1) := by decide +kernel
theorem d_M_hangs_32 : decode b_M_hangs 32 = .ok (.getfield 16, 3) := by decide +kernel
theorem d_M_hangs_35 : decode b_M_hangs 35 = .ok (.iload_n 2, 1) := by decide +kernel
theorem d_M_hangs_36 : decode b_M_hangs 36 = .ok (.iaload, 1) := by decide +kernel
theorem d_M_hangs_37 : decode b_M_hangs 37 = .ok (.if_icmp .ne 7, 3) := by decide +kernel
theorem d_M_hangs_40 : decode b_M_hangs 40 = .ok (.iconst 1, 1) := by decide +kernel
theorem d_M_hangs_41 : decode b_M_hangs 41 = .ok (.goto 4, 3) := by decide +kernel
theorem d_M_hangs_44 : decode b_M_hangs 44 = .ok (.iconst 0, 1) := by decide +kernel
theorem d_M_hangs_45 : decode b_M_hangs 45 = .ok (.ireturn, 1) := by decide +kernel
theorem d_M_isUsed_0 : decode b_M_isUsed 0 = .ok (.iconst 0, 1) := by decide +kernel
theorem d_M_isUsed_1 : decode b_M_isUsed 1 = .ok (.istore_n 2, 1) := by decide +kernel
theorem d_M_isUsed_2 : decode b_M_isUsed 2 = .ok (.iload_n 2, 1) := by decide +kernel
theorem d_M_isUsed_3 : decode b_M_isUsed 3 = .ok (.aload_n 0, 1) := by decide +kernel
theorem d_M_isUsed_4 : decode b_M_isUsed 4 = .ok (.getfield 171, 3) := by decide +kernel
theorem d_M_isUsed_7 : decode b_M_isUsed 7 = .ok (.if_icmp .ge 21, 3) := by decide +kernel
theorem d_M_isUsed_10 : decode b_M_isUsed 10 = .ok (.aload_n 0, 1) := by decide +kernel
theorem d_M_isUsed_11 : decode b_M_isUsed 11 = .ok (.getfield 46, 3) := by decide +kernel
theorem d_M_isUsed_14 : decode b_M_isUsed 14 = .ok (.iload_n 2, 1) := by decide +kernel
theorem d_M_isUsed_15 : decode b_M_isUsed 15 = .ok (.iaload, 1) := by decide +kernel
theorem d_M_isUsed_16 : decode b_M_isUsed 16 = .ok (.iload_n 1, 1) := by decide +kernel
theorem d_M_isUsed_17 : decode b_M_isUsed 17 = .ok (.if_icmp .ne 5, 3) := by decide +kernel
theorem d_M_isUsed_20 : decode b_M_isUsed 20 = .ok (.iconst 1, 1) := by decide +kernel
theorem d_M_isUsed_21 : decode b_M_isUsed 21 = .ok (.ireturn, 1) := by decide +kernel
theorem d_M_isUsed_22 : decode b_M_isUsed 22 = .ok (.iinc 2 1, 3) := by decide +kernel
theorem d_M_isUsed_25 : decode b_M_isUsed 25 = .ok (.goto (-23), 3) := by decide +kernel
theorem d_M_isUsed_28 : decode b_M_isUsed 28 = .ok (.iconst 0, 1) := by decide +kernel
theorem d_M_isUsed_29 : decode b_M_isUsed 29 = .ok (.ireturn, 1) := by decide +kernel
theorem d_M_isFree_0 : decode b_M_isFree 0 = .ok (.iconst 0, 1) := by decide +kernel
theorem d_M_isFree_1 : decode b_M_isFree 1 = .ok (.istore_n 2, 1) := by decide +kernel
theorem d_M_isFree_2 : decode b_M_isFree 2 = .ok (.iload_n 2, 1) := by decide +kernel
theorem d_M_isFree_3 : decode b_M_isFree 3 = .ok (.aload_n 0, 1) := by decide +kernel
theorem d_M_isFree_4 : decode b_M_isFree 4 = .ok (.getfield 70, 3) := by decide +kernel
theorem d_M_isFree_7 : decode b_M_isFree 7 = .ok (.if_icmp .ge 36, 3) := by decide +kernel
theorem d_M_isFree_10 : decode b_M_isFree 10 = .ok (.aload_n 0, 1) := by decide +kernel
theorem d_M_isFree_11 : decode b_M_isFree 11 = .ok (.iload_n 2, 1) := by decide +kernel
theorem d_M_isFree_12 : decode b_M_isFree 12 = .ok (.invokevirtual 174, 3) := by decide +kernel
theorem d_M_isFree_15 : decode b_M_isFree 15 = .ok (.ifCond .eq 22, 3) := by decide +kernel
theorem d_M_isFree_18 : decode b_M_isFree 18 = .ok (.aload_n 0, 1) := by decide +kernel
theorem d_M_isFree_19 : decode b_M_isFree 19 = .ok (.iload_n 2, 1) := by decide +kernel
theorem d_M_isFree_20 : decode b_M_isFree 20 = .ok (.invokevirtual 177, 3) := by decide +kernel
theorem d_M_isFree_23 : decode b_M_isFree 23 = .ok (.ifCond .ne 14, 3) := by decide +kernel
theorem d_M_isFree_26 : decode b_M_isFree 26 = .ok (.aload_n 0, 1) := by decide +kernel
theorem d_M_isFree_27 : decode b_M_isFree 27 = .ok (.iload_n 1, 1) := by decide +kernel
theorem d_M_isFree_28 : decode b_M_isFree 28 = .ok (.iload_n 2, 1) := by decide +kernel
theorem d_M_isFree_29 : decode b_M_isFree 29 = .ok (.invokevirtual 180, 3) := by decide +kernel
theorem d_M_isFree_32 : decode b_M_isFree 32 = .ok (.ifCond .eq 5, 3) := by decide +kernel
theorem d_M_isFree_35 : decode b_M_isFree 35 = .ok (.iconst 0, 1) := by decide +kernel
theorem d_M_isFree_36 : decode b_M_isFree 36 = .ok (.ireturn, 1) := by decide +kernel
theorem d_M_isFree_37 : decode b_M_isFree 37 = .ok (.iinc 2 1, 3) := by decide +kernel
theorem d_M_isFree_40 : decode b_M_isFree 40 = .ok (.goto (-38), 3) := by decide +kernel
theorem d_M_isFree_43 : decode b_M_isFree 43 = .ok (.iconst 1, 1) := by decide +kernel
theorem d_M_isFree_44 : decode b_M_isFree 44 = .ok (.ireturn, 1) := by decide +kernel
theorem d_M_nextLayer_0 : decode b_M_nextLayer 0 = .ok (.iconst (-1), 1) := by decide +kernel
theorem d_M_nextLayer_1 : decode b_M_nextLayer 1 = .ok (.istore_n 2, 1) := by decide +kernel
theorem d_M_nextLayer_2 : decode b_M_nextLayer 2 = .ok (.iconst 0, 1) := by decide +kernel
theorem d_M_nextLayer_3 : decode b_M_nextLayer 3 = .ok (.istore_n 3, 1) := by decide +kernel
theorem d_M_nextLayer_4 : decode b_M_nextLayer 4 = .ok (.iload_n 3, 1) := by decide +kernel
theorem d_M_nextLayer_5 : decode b_M_nextLayer 5 = .ok (.aload_n 0, 1) := by decide +kernel
theorem d_M_nextLayer_6 : decode b_M_nextLayer 6 = .ok (.getfield 70, 3) := by decide +kernel
theorem d_M_nextLayer_9 : decode b_M_nextLayer 9 = .ok (.if_icmp .ge 64, 3) := by decide +kernel
theorem d_M_nextLayer_12 : decode b_M_nextLayer 12 = .ok (.aload_n 0, 1) := by decide +kernel
theorem d_M_nextLayer_13 : decode b_M_nextLayer 13 = .ok (.iload_n 3, 1) := by decide +kernel
theorem d_M_nextLayer_14 : decode b_M_nextLayer 14 = .ok (.invokevirtual 174, 3) := by decide +kernel
theorem d_M_nextLayer_17 : decode b_M_nextLayer 17 = .ok (.ifCond .eq 50, 3) := by decide +kernel
theorem d_M_nextLayer_20 : decode b_M_nextLayer 20 = .ok (.aload_n 0, 1) := by decide +kernel
theorem d_M_nextLayer_21 : decode b_M_nextLayer 21 = .ok (.iload_n 3, 1) := by decide +kernel
theorem d_M_nextLayer_22 : decode b_M_nextLayer 22 = .ok (.invokevirtual 177, 3) := by decide +kernel
theorem d_M_nextLayer_25 : decode b_M_nextLayer 25 = .ok (.ifCond .ne 42, 3) := by decide +kernel
theorem d_M_nextLayer_28 : decode b_M_nextLayer 28 = .ok (.iload_n 1, 1) := by decide +kernel
theorem d_M_nextLayer_29 : decode b_M_nextLayer 29 = .ok (.ifCond .eq 11, 3) := by decide +kernel
theorem d_M_nextLayer_32 : decode b_M_nextLayer 32 = .ok (.aload_n 0, 1) := by decide +kernel
theorem d_M_nextLayer_33 : decode b_M_nextLayer 33 = .ok (.iload_n 3, 1) := by decide +kernel
theorem d_M_nextLayer_34 : decode b_M_nextLayer 34 = .ok (.invokevirtual 183, 3) := by decide +kernel
theorem d_M_nextLayer_37 : decode b_M_nextLayer 37 = .ok (.ifCond .eq 30, 3) := by decide +kernel
theorem d_M_nextLayer_40 : decode b_M_nextLayer 40 = .ok (.iload_n 2, 1) := by decide +kernel
theorem d_M_nextLayer_41 : decode b_M_nextLayer 41 = .ok (.ifCond .lt 24, 3) := by decide +kernel
theorem d_M_nextLayer_44 : decode b_M_nextLayer 44 = .ok (.aload_n 0, 1) := by decide +kernel
theorem d_M_nextLayer_45 : decode b_M_nextLayer 45 = .ok (.getfield 25, 3) := by decide +kernel
theorem d_M_nextLayer_48 : decode b_M_nextLayer 48 = .ok (.bipush 95, 2) := by decide +kernel
theorem d_M_nextLayer_50 : decode b_M_nextLayer 50 = .ok (.iload_n 3, 1) := by decide +kernel
theorem d_M_nextLayer_51 : decode b_M_nextLayer 51 = .ok (.iadd, 1) := by decide +kernel
theorem d_M_nextLayer_52 : decode b_M_nextLayer 52 = .ok (.iaload, 1) := by decide +kernel
theorem d_M_nextLayer_53 : decode b_M_nextLayer 53 = .ok (.aload_n 0, 1) := by decide +kernel
theorem d_M_nextLayer_54 : decode b_M_nextLayer 54 = .ok (.getfield 25, 3) := by decide +kernel
theorem d_M_nextLayer_57 : decode b_M_nextLayer 57 = .ok (.bipush 95, 2) := by decide +kernel
theorem d_M_nextLayer_59 : decode b_M_nextLayer 59 = .ok (.iload_n 2, 1) := by decide +kernel
theorem d_M_nextLayer_60 : decode b_M_nextLayer 60 = .ok (.iadd, 1) := by decide +kernel
theorem d_M_nextLayer_61 : decode b_M_nextLayer 61 = .ok (.iaload, 1) := by decide +kernel
theorem d_M_nextLayer_62 : decode b_M_nextLayer 62 = .ok (.if_icmp .ge 5, 3) := by decide +kernel
theorem d_M_nextLayer_65 : decode b_M_nextLayer 65 = .ok (.iload_n 3, 1) := by decide +kernel
theorem d_M_nextLayer_66 : decode b_M_nextLayer 66 = .ok (.istore_n 2, 1) := by decide +kernel
theorem d_M_nextLayer_67 : decode b_M_nextLayer 67 = .ok (.iinc 3 1, 3) := by decide +kernel
theorem d_M_nextLayer_70 : decode b_M_nextLayer 70 = .ok (.goto (-66), 3) := by decide +kernel
theorem d_M_nextLayer_73 : decode b_M_nextLayer 73 = .ok (.iload_n 2, 1) := by decide +kernel
theorem d_M_nextLayer_74 : decode b_M_nextLayer 74 = .ok (.ireturn, 1) := by decide +kernel
theorem d_M_use_0 : decode b_M_use 0 = .ok (.aload_n 0, 1) := by decide +kernel
theorem d_M_use_1 : decode b_M_use 1 = .ok (.getfield 16, 3) := by decide +kernel
theorem d_M_use_4 : decode b_M_use 4 = .ok (.iload_n 1, 1) := by decide +kernel
theorem d_M_use_5 : decode b_M_use 5 = .ok (.iaload, 1) := by decide +kernel
theorem d_M_use_6 : decode b_M_use 6 = .ok (.istore_n 2, 1) := by decide +kernel
theorem d_M_use_7 : decode b_M_use 7 = .ok (.aload_n 0, 1) := by decide +kernel
theorem d_M_use_8 : decode b_M_use 8 = .ok (.getfield 43, 3) := by decide +kernel
theorem d_M_use_11 : decode b_M_use 11 = .ok (.aload_n 0, 1) := by decide +kernel
theorem d_M_use_12 : decode b_M_use 12 = .ok (.getfield 19, 3) := by decide +kernel
theorem d_M_use_15 : decode b_M_use 15 = .ok (.iload_n 1, 1) := by decide +kernel
theorem d_M_use_16 : decode b_M_use 16 = .ok (.iaload, 1) := by decide +kernel
theorem d_M_use_17 : decode b_M_use 17 = .ok (.iaload, 1) := by decide +kernel
theorem d_M_use_18 : decode b_M_use 18 = .ok (.istore_n 3, 1) := by decide +kernel
theorem d_M_use_19 : decode b_M_use 19 = .ok (.aload_n 0, 1) := by decide +kernel
theorem d_M_use_20 : decode b_M_use 20 = .ok (.getfield 9, 3) := by decide +kernel
theorem d_M_use_23 : decode b_M_use 23 = .ok (.iload_n 1, 1) := by decide +kernel
theorem d_M_use_24 : decode b_M_use 24 = .ok (.iaload, 1) := by decide +kernel
theorem d_M_use_25 : decode b_M_use 25 = .ok (.ifCond .ne 19, 3) := by decide +kernel
theorem d_M_use_28 : decode b_M_use 28 = .ok (.aload_n 0, 1) := by decide +kernel
theorem d_M_use_29 : decode b_M_use 29 = .ok (.getfield 43, 3) := by decide +kernel
theorem d_M_use_32 : decode b_M_use 32 = .ok (.iload_n 2, 1) := by decide +kernel
theorem d_M_use_33 : decode b_M_use 33 = .ok (.iaload, 1) := by decide +kernel
theorem d_M_use_34 : decode b_M_use 34 = .ok (.aload_n 0, 1) := by decide +kernel
theorem d_M_use_35 : decode b_M_use 35 = .ok (.getfield 22, 3) := by decide +kernel
theorem d_M_use_38 : decode b_M_use 38 = .ok (.iload_n 1, 1) := by decide +kernel
theorem d_M_use_39 : decode b_M_use 39 = .ok (.iaload, 1) := by decide +kernel
theorem d_M_use_40 : decode b_M_use 40 = .ok (.iadd, 1) := by decide +kernel
theorem d_M_use_41 : decode b_M_use 41 = .ok (.goto 70, 3) := by decide +kernel
theorem d_M_use_44 : decode b_M_use 44 = .ok (.aload_n 0, 1) := by decide +kernel
theorem d_M_use_45 : decode b_M_use 45 = .ok (.getfield 9, 3) := by decide +kernel
theorem d_M_use_48 : decode b_M_use 48 = .ok (.iload_n 1, 1) := by decide +kernel
theorem d_M_use_49 : decode b_M_use 49 = .ok (.iaload, 1) := by decide +kernel
theorem d_M_use_50 : decode b_M_use 50 = .ok (.iconst 1, 1) := by decide +kernel
theorem d_M_use_51 : decode b_M_use 51 = .ok (.if_icmp .ne 19, 3) := by decide +kernel
theorem d_M_use_54 : decode b_M_use 54 = .ok (.aload_n 0, 1) := by decide +kernel
theorem d_M_use_55 : decode b_M_use 55 = .ok (.getfield 43, 3) := by decide +kernel
theorem d_M_use_58 : decode b_M_use 58 = .ok (.iload_n 2, 1) := by decide +kernel
theorem d_M_use_59 : decode b_M_use 59 = .ok (.iaload, 1) := by decide +kernel
theorem d_M_use_60 : decode b_M_use 60 = .ok (.aload_n 0, 1) := by decide +kernel
theorem d_M_use_61 : decode b_M_use 61 = .ok (.getfield 22, 3) := by decide +kernel
theorem d_M_use_64 : decode b_M_use 64 = .ok (.iload_n 1, 1) := by decide +kernel
theorem d_M_use_65 : decode b_M_use 65 = .ok (.iaload, 1) := by decide +kernel
theorem d_M_use_66 : decode b_M_use 66 = .ok (.imul, 1) := by decide +kernel
theorem d_M_use_67 : decode b_M_use 67 = .ok (.goto 44, 3) := by decide +kernel
theorem d_M_use_70 : decode b_M_use 70 = .ok (.aload_n 0, 1) := by decide +kernel
theorem d_M_use_71 : decode b_M_use 71 = .ok (.getfield 9, 3) := by decide +kernel
theorem d_M_use_74 : decode b_M_use 74 = .ok (.iload_n 1, 1) := by decide +kernel
theorem d_M_use_75 : decode b_M_use 75 = .ok (.iaload, 1) := by decide +kernel
theorem d_M_use_76 : decode b_M_use 76 = .ok (.iconst 2, 1) := by decide +kernel
theorem d_M_use_77 : decode b_M_use 77 = .ok (.if_icmp .ne 12, 3) := by decide +kernel
theorem d_M_use_80 : decode b_M_use 80 = .ok (.aload_n 0, 1) := by decide +kernel
theorem d_M_use_81 : decode b_M_use 81 = .ok (.getfield 22, 3) := by decide +kernel
theorem d_M_use_84 : decode b_M_use 84 = .ok (.iload_n 1, 1) := by decide +kernel
theorem d_M_use_85 : decode b_M_use 85 = .ok (.iaload, 1) := by decide +kernel
theorem d_M_use_86 : decode b_M_use 86 = .ok (.goto 25, 3) := by decide +kernel
theorem d_M_use_89 : decode b_M_use 89 = .ok (.aload_n 0, 1) := by decide +kernel
theorem d_M_use_90 : decode b_M_use 90 = .ok (.getfield 9, 3) := by decide +kernel
theorem d_M_use_93 : decode b_M_use 93 = .ok (.iload_n 1, 1) := by decide +kernel
theorem d_M_use_94 : decode b_M_use 94 = .ok (.iaload, 1) := by decide +kernel
theorem d_M_use_95 : decode b_M_use 95 = .ok (.iconst 3, 1) := by decide +kernel
theorem d_M_use_96 : decode b_M_use 96 = .ok (.if_icmp .ne 7, 3) := by decide +kernel
theorem d_M_use_99 : decode b_M_use 99 = .ok (.iload_n 3, 1) := by decide +kernel
theorem d_M_use_100 : decode b_M_use 100 = .ok (.goto 11, 3) := by decide +kernel
theorem d_M_use_103 : decode b_M_use 103 = .ok (.aload_n 0, 1) := by decide +kernel
theorem d_M_use_104 : decode b_M_use 104 = .ok (.getfield 43, 3) := by decide +kernel
theorem d_M_use_107 : decode b_M_use 107 = .ok (.iload_n 2, 1) := by decide +kernel
theorem d_M_use_108 : decode b_M_use 108 = .ok (.iaload, 1) := by decide +kernel
theorem d_M_use_109 : decode b_M_use 109 = .ok (.iload_n 3, 1) := by decide +kernel
theorem d_M_use_110 : decode b_M_use 110 = .ok (.iadd, 1) := by decide +kernel
theorem d_M_use_111 : decode b_M_use 111 = .ok (.istore 4, 2) := by decide +kernel
theorem d_M_use_113 : decode b_M_use 113 = .ok (.aload_n 0, 1) := by decide +kernel
theorem d_M_use_114 : decode b_M_use 114 = .ok (.getfield 43, 3) := by decide +kernel
theorem d_M_use_117 : decode b_M_use 117 = .ok (.iload_n 2, 1) := by decide +kernel
theorem d_M_use_118 : decode b_M_use 118 = .ok (.iload 4, 2) := by decide +kernel
theorem d_M_use_120 : decode b_M_use 120 = .ok (.bipush (-99), 2) := by decide +kernel
theorem d_M_use_122 : decode b_M_use 122 = .ok (.bipush 99, 2) := by decide +kernel
theorem d_M_use_124 : decode b_M_use 124 = .ok (.invokestatic 186, 3) := by decide +kernel
theorem d_M_use_127 : decode b_M_use 127 = .ok (.iastore, 1) := by decide +kernel
theorem d_M_use_128 : decode b_M_use 128 = .ok (.aload_n 0, 1) := by decide +kernel
theorem d_M_use_129 : decode b_M_use 129 = .ok (.getfield 46, 3) := by decide +kernel
theorem d_M_use_132 : decode b_M_use 132 = .ok (.aload_n 0, 1) := by decide +kernel
theorem d_M_use_133 : decode b_M_use 133 = .ok (.dup, 1) := by decide +kernel
theorem d_M_use_134 : decode b_M_use 134 = .ok (.getfield 171, 3) := by decide +kernel
theorem d_M_use_137 : decode b_M_use 137 = .ok (.dup_x1, 1) := by decide +kernel
theorem d_M_use_138 : decode b_M_use 138 = .ok (.iconst 1, 1) := by decide +kernel
theorem d_M_use_139 : decode b_M_use 139 = .ok (.iadd, 1) := by decide +kernel
theorem d_M_use_140 : decode b_M_use 140 = .ok (.putfield 171, 3) := by decide +kernel
theorem d_M_use_143 : decode b_M_use 143 = .ok (.iload_n 1, 1) := by decide +kernel
theorem d_M_use_144 : decode b_M_use 144 = .ok (.iastore, 1) := by decide +kernel
theorem d_M_use_145 : decode b_M_use 145 = .ok (.return_, 1) := by decide +kernel
theorem d_M_layered_0 : decode b_M_layered 0 = .ok (.aload_n 0, 1) := by decide +kernel
theorem d_M_layered_1 : decode b_M_layered 1 = .ok (.iconst 0, 1) := by decide +kernel
theorem d_M_layered_2 : decode b_M_layered 2 = .ok (.putfield 171, 3) := by decide +kernel
theorem d_M_layered_5 : decode b_M_layered 5 = .ok (.iconst 0, 1) := by decide +kernel
theorem d_M_layered_6 : decode b_M_layered 6 = .ok (.istore_n 1, 1) := by decide +kernel
theorem d_M_layered_7 : decode b_M_layered 7 = .ok (.iload_n 1, 1) := by decide +kernel
theorem d_M_layered_8 : decode b_M_layered 8 = .ok (.iconst 4, 1) := by decide +kernel
theorem d_M_layered_9 : decode b_M_layered 9 = .ok (.if_icmp .ge 24, 3) := by decide +kernel
theorem d_M_layered_12 : decode b_M_layered 12 = .ok (.aload_n 0, 1) := by decide +kernel
theorem d_M_layered_13 : decode b_M_layered 13 = .ok (.getfield 43, 3) := by decide +kernel
theorem d_M_layered_16 : decode b_M_layered 16 = .ok (.iload_n 1, 1) := by decide +kernel
theorem d_M_layered_17 : decode b_M_layered 17 = .ok (.aload_n 0, 1) := by decide +kernel
theorem d_M_layered_18 : decode b_M_layered 18 = .ok (.getfield 25, 3) := by decide +kernel
theorem d_M_layered_21 : decode b_M_layered 21 = .ok (.bipush 119, 2) := by decide +kernel
theorem d_M_layered_23 : decode b_M_layered 23 = .ok (.iload_n 1, 1) := by decide +kernel
theorem d_M_layered_24 : decode b_M_layered 24 = .ok (.iadd, 1) := by decide +kernel
theorem d_M_layered_25 : decode b_M_layered 25 = .ok (.iaload, 1) := by decide +kernel
theorem d_M_layered_26 : decode b_M_layered 26 = .ok (.iastore, 1) := by decide +kernel
theorem d_M_layered_27 : decode b_M_layered 27 = .ok (.iinc 1 1, 3) := by decide +kernel
theorem d_M_layered_30 : decode b_M_layered 30 = .ok (.goto (-23), 3) := by decide +kernel
theorem d_M_layered_33 : decode b_M_layered 33 = .ok (.iconst 0, 1) := by decide +kernel
theorem d_M_layered_34 : decode b_M_layered 34 = .ok (.istore_n 1, 1) := by decide +kernel
theorem d_M_layered_35 : decode b_M_layered 35 = .ok (.iload_n 1, 1) := by decide +kernel
theorem d_M_layered_36 : decode b_M_layered 36 = .ok (.ifCond .lt 35, 3) := by decide +kernel
theorem d_M_layered_39 : decode b_M_layered 39 = .ok (.aload_n 0, 1) := by decide +kernel
theorem d_M_layered_40 : decode b_M_layered 40 = .ok (.iconst 1, 1) := by decide +kernel
theorem d_M_layered_41 : decode b_M_layered 41 = .ok (.invokevirtual 189, 3) := by decide +kernel
theorem d_M_layered_44 : decode b_M_layered 44 = .ok (.istore_n 1, 1) := by decide +kernel
theorem d_M_layered_45 : decode b_M_layered 45 = .ok (.iload_n 1, 1) := by decide +kernel
theorem d_M_layered_46 : decode b_M_layered 46 = .ok (.ifCond .ge 11, 3) := by decide +kernel
theorem d_M_layered_49 : decode b_M_layered 49 = .ok (.aload_n 0, 1) := by decide +kernel
theorem d_M_layered_50 : decode b_M_layered 50 = .ok (.iconst 0, 1) := by decide +kernel
theorem d_M_layered_51 : decode b_M_layered 51 = .ok (.invokevirtual 189, 3) := by decide +kernel
theorem d_M_layered_54 : decode b_M_layered 54 = .ok (.goto 4, 3) := by decide +kernel
theorem d_M_layered_57 : decode b_M_layered 57 = .ok (.iload_n 1, 1) := by decide +kernel
theorem d_M_layered_58 : decode b_M_layered 58 = .ok (.istore_n 1, 1) := by decide +kernel
theorem d_M_layered_59 : decode b_M_layered 59 = .ok (.iload_n 1, 1) := by decide +kernel
theorem d_M_layered_60 : decode b_M_layered 60 = .ok (.ifCond .lt (-25), 3) := by decide +kernel
theorem d_M_layered_63 : decode b_M_layered 63 = .ok (.aload_n 0, 1) := by decide +kernel
theorem d_M_layered_64 : decode b_M_layered 64 = .ok (.iload_n 1, 1) := by decide +kernel
theorem d_M_layered_65 : decode b_M_layered 65 = .ok (.invokevirtual 192, 3) := by decide +kernel
theorem d_M_layered_68 : decode b_M_layered 68 = .ok (.goto (-33), 3) := by decide +kernel
theorem d_M_layered_71 : decode b_M_layered 71 = .ok (.return_, 1) := by decide +kernel
theorem d_M_valueNow_0 : decode b_M_valueNow 0 = .ok (.aload_n 0, 1) := by decide +kernel
theorem d_M_valueNow_1 : decode b_M_valueNow 1 = .ok (.invokevirtual 196, 3) := by decide +kernel
theorem d_M_valueNow_4 : decode b_M_valueNow 4 = .ok (.aload_n 0, 1) := by decide +kernel
theorem d_M_valueNow_5 : decode b_M_valueNow 5 = .ok (.getfield 43, 3) := by decide +kernel
theorem d_M_valueNow_8 : decode b_M_valueNow 8 = .ok (.iload_n 1, 1) := by decide +kernel
theorem d_M_valueNow_9 : decode b_M_valueNow 9 = .ok (.iaload, 1) := by decide +kernel
theorem d_M_valueNow_10 : decode b_M_valueNow 10 = .ok (.ireturn, 1) := by decide +kernel
theorem d_M_value_0 : decode b_M_value 0 = .ok (.iload_n 1, 1) := by decide +kernel
theorem d_M_value_1 : decode b_M_value 1 = .ok (.iconst 0, 1) := by decide +kernel
theorem d_M_value_2 : decode b_M_value 2 = .ok (.iconst 3, 1) := by decide +kernel
theorem d_M_value_3 : decode b_M_value 3 = .ok (.invokestatic 73, 3) := by decide +kernel
theorem d_M_value_6 : decode b_M_value 6 = .ok (.ifCond .eq 11, 3) := by decide +kernel
theorem d_M_value_9 : decode b_M_value 9 = .ok (.aload_n 0, 1) := by decide +kernel
theorem d_M_value_10 : decode b_M_value 10 = .ok (.iload_n 1, 1) := by decide +kernel
theorem d_M_value_11 : decode b_M_value 11 = .ok (.invokevirtual 199, 3) := by decide +kernel
theorem d_M_value_14 : decode b_M_value 14 = .ok (.goto 5, 3) := by decide +kernel
theorem d_M_value_17 : decode b_M_value 17 = .ok (.ldc 167, 2) := by decide +kernel
theorem d_M_value_19 : decode b_M_value 19 = .ok (.ireturn, 1) := by decide +kernel
theorem d_M_layer_0 : decode b_M_layer 0 = .ok (.iload_n 1, 1) := by decide +kernel
theorem d_M_layer_1 : decode b_M_layer 1 = .ok (.ifCond .ge 5, 3) := by decide +kernel
theorem d_M_layer_4 : decode b_M_layer 4 = .ok (.iconst (-1), 1) := by decide +kernel
theorem d_M_layer_5 : decode b_M_layer 5 = .ok (.ireturn, 1) := by decide +kernel
theorem d_M_layer_6 : decode b_M_layer 6 = .ok (.aload_n 0, 1) := by decide +kernel
theorem d_M_layer_7 : decode b_M_layer 7 = .ok (.invokevirtual 196, 3) := by decide +kernel
theorem d_M_layer_10 : decode b_M_layer 10 = .ok (.iload_n 1, 1) := by decide +kernel
theorem d_M_layer_11 : decode b_M_layer 11 = .ok (.aload_n 0, 1) := by decide +kernel
theorem d_M_layer_12 : decode b_M_layer 12 = .ok (.getfield 171, 3) := by decide +kernel
theorem d_M_layer_15 : decode b_M_layer 15 = .ok (.if_icmp .ge 12, 3) := by decide +kernel
theorem d_M_layer_18 : decode b_M_layer 18 = .ok (.aload_n 0, 1) := by decide +kernel
theorem d_M_layer_19 : decode b_M_layer 19 = .ok (.getfield 46, 3) := by decide +kernel
theorem d_M_layer_22 : decode b_M_layer 22 = .ok (.iload_n 1, 1) := by decide +kernel
theorem d_M_layer_23 : decode b_M_layer 23 = .ok (.iaload, 1) := by decide +kernel
theorem d_M_layer_24 : decode b_M_layer 24 = .ok (.goto 5, 3) := by decide +kernel
theorem d_M_layer_27 : decode b_M_layer 27 = .ok (.bipush (-2), 2) := by decide +kernel
theorem d_M_layer_29 : decode b_M_layer 29 = .ok (.ireturn, 1) := by decide +kernel
theorem d_M_depends_0 : decode b_M_depends 0 = .ok (.aload_n 0, 1) := by decide +kernel
theorem d_M_depends_1 : decode b_M_depends 1 = .ok (.iload_n 1, 1) := by decide +kernel
theorem d_M_depends_2 : decode b_M_depends 2 = .ok (.invokevirtual 160, 3) := by decide +kernel
theorem d_M_depends_5 : decode b_M_depends 5 = .ok (.ifCond .eq 32, 3) := by decide +kernel
theorem d_M_depends_8 : decode b_M_depends 8 = .ok (.aload_n 0, 1) := by decide +kernel
theorem d_M_depends_9 : decode b_M_depends 9 = .ok (.iload_n 2, 1) := by decide +kernel
theorem d_M_depends_10 : decode b_M_depends 10 = .ok (.invokevirtual 160, 3) := by decide +kernel
theorem d_M_depends_13 : decode b_M_depends 13 = .ok (.ifCond .eq 24, 3) := by decide +kernel
theorem d_M_depends_16 : decode b_M_depends 16 = .ok (.iload_n 1, 1) := by decide +kernel
theorem d_M_depends_17 : decode b_M_depends 17 = .ok (.iload_n 2, 1) := by decide +kernel
theorem d_M_depends_18 : decode b_M_depends 18 = .ok (.if_icmp .eq 19, 3) := by decide +kernel
theorem d_M_depends_21 : decode b_M_depends 21 = .ok (.aload_n 0, 1) := by decide +kernel
theorem d_M_depends_22 : decode b_M_depends 22 = .ok (.iload_n 1, 1) := by decide +kernel
theorem d_M_depends_23 : decode b_M_depends 23 = .ok (.invokevirtual 174, 3) := by decide +kernel
theorem d_M_depends_26 : decode b_M_depends 26 = .ok (.ifCond .eq 11, 3) := by decide +kernel
theorem d_M_depends_29 : decode b_M_depends 29 = .ok (.aload_n 0, 1) := by decide +kernel
theorem d_M_depends_30 : decode b_M_depends 30 = .ok (.iload_n 2, 1) := by decide +kernel
theorem d_M_depends_31 : decode b_M_depends 31 = .ok (.invokevirtual 174, 3) := by decide +kernel
theorem d_M_depends_34 : decode b_M_depends 34 = .ok (.ifCond .ne 5, 3) := by decide +kernel
theorem d_M_depends_37 : decode b_M_depends 37 = .ok (.iconst (-1), 1) := by decide +kernel
theorem d_M_depends_38 : decode b_M_depends 38 = .ok (.ireturn, 1) := by decide +kernel
theorem d_M_depends_39 : decode b_M_depends 39 = .ok (.aload_n 0, 1) := by decide +kernel
theorem d_M_depends_40 : decode b_M_depends 40 = .ok (.iload_n 1, 1) := by decide +kernel
theorem d_M_depends_41 : decode b_M_depends 41 = .ok (.iload_n 2, 1) := by decide +kernel
theorem d_M_depends_42 : decode b_M_depends 42 = .ok (.invokevirtual 180, 3) := by decide +kernel
theorem d_M_depends_45 : decode b_M_depends 45 = .ok (.ifCond .eq 7, 3) := by decide +kernel
theorem d_M_depends_48 : decode b_M_depends 48 = .ok (.iconst 1, 1) := by decide +kernel
theorem d_M_depends_49 : decode b_M_depends 49 = .ok (.goto 4, 3) := by decide +kernel
theorem d_M_depends_52 : decode b_M_depends 52 = .ok (.iconst 0, 1) := by decide +kernel
theorem d_M_depends_53 : decode b_M_depends 53 = .ok (.ireturn, 1) := by decide +kernel
theorem d_M_fits_0 : decode b_M_fits 0 = .ok (.aload_n 0, 1) := by decide +kernel
theorem d_M_fits_1 : decode b_M_fits 1 = .ok (.iload_n 1, 1) := by decide +kernel
theorem d_M_fits_2 : decode b_M_fits 2 = .ok (.iconst 3, 1) := by decide +kernel
theorem d_M_fits_3 : decode b_M_fits 3 = .ok (.invokevirtual 164, 3) := by decide +kernel
theorem d_M_fits_6 : decode b_M_fits 6 = .ok (.ifCond .eq 31, 3) := by decide +kernel
theorem d_M_fits_9 : decode b_M_fits 9 = .ok (.aload_n 0, 1) := by decide +kernel
theorem d_M_fits_10 : decode b_M_fits 10 = .ok (.getfield 9, 3) := by decide +kernel
theorem d_M_fits_13 : decode b_M_fits 13 = .ok (.iload_n 1, 1) := by decide +kernel
theorem d_M_fits_14 : decode b_M_fits 14 = .ok (.iaload, 1) := by decide +kernel
theorem d_M_fits_15 : decode b_M_fits 15 = .ok (.iconst 5, 1) := by decide +kernel
theorem d_M_fits_16 : decode b_M_fits 16 = .ok (.bipush 8, 2) := by decide +kernel
theorem d_M_fits_18 : decode b_M_fits 18 = .ok (.invokestatic 73, 3) := by decide +kernel
theorem d_M_fits_21 : decode b_M_fits 21 = .ok (.ifCond .eq 16, 3) := by decide +kernel
theorem d_M_fits_24 : decode b_M_fits 24 = .ok (.aload_n 0, 1) := by decide +kernel
theorem d_M_fits_25 : decode b_M_fits 25 = .ok (.getfield 16, 3) := by decide +kernel
theorem d_M_fits_28 : decode b_M_fits 28 = .ok (.iload_n 1, 1) := by decide +kernel
theorem d_M_fits_29 : decode b_M_fits 29 = .ok (.iaload, 1) := by decide +kernel
theorem d_M_fits_30 : decode b_M_fits 30 = .ok (.aload_n 0, 1) := by decide +kernel
theorem d_M_fits_31 : decode b_M_fits 31 = .ok (.getfield 202, 3) := by decide +kernel
theorem d_M_fits_34 : decode b_M_fits 34 = .ok (.if_icmp .eq 5, 3) := by decide +kernel
theorem d_M_fits_37 : decode b_M_fits 37 = .ok (.iconst 0, 1) := by decide +kernel
theorem d_M_fits_38 : decode b_M_fits 38 = .ok (.ireturn, 1) := by decide +kernel
theorem d_M_fits_39 : decode b_M_fits 39 = .ok (.aload_n 0, 1) := by decide +kernel
theorem d_M_fits_40 : decode b_M_fits 40 = .ok (.getfield 9, 3) := by decide +kernel
theorem d_M_fits_43 : decode b_M_fits 43 = .ok (.iload_n 1, 1) := by decide +kernel
theorem d_M_fits_44 : decode b_M_fits 44 = .ok (.iaload, 1) := by decide +kernel
theorem d_M_fits_45 : decode b_M_fits 45 = .ok (.iconst 5, 1) := by decide +kernel
theorem d_M_fits_46 : decode b_M_fits 46 = .ok (.if_icmp .eq 27, 3) := by decide +kernel
theorem d_M_fits_49 : decode b_M_fits 49 = .ok (.aload_n 0, 1) := by decide +kernel
theorem d_M_fits_50 : decode b_M_fits 50 = .ok (.getfield 9, 3) := by decide +kernel
theorem d_M_fits_53 : decode b_M_fits 53 = .ok (.iload_n 1, 1) := by decide +kernel
theorem d_M_fits_54 : decode b_M_fits 54 = .ok (.iaload, 1) := by decide +kernel
theorem d_M_fits_55 : decode b_M_fits 55 = .ok (.bipush 8, 2) := by decide +kernel
theorem d_M_fits_57 : decode b_M_fits 57 = .ok (.if_icmp .eq 16, 3) := by decide +kernel
theorem d_M_fits_60 : decode b_M_fits 60 = .ok (.aload_n 0, 1) := by decide +kernel
theorem d_M_fits_61 : decode b_M_fits 61 = .ok (.getfield 13, 3) := by decide +kernel
theorem d_M_fits_64 : decode b_M_fits 64 = .ok (.iload_n 1, 1) := by decide +kernel
theorem d_M_fits_65 : decode b_M_fits 65 = .ok (.iaload, 1) := by decide +kernel
theorem d_M_fits_66 : decode b_M_fits 66 = .ok (.aload_n 0, 1) := by decide +kernel
theorem d_M_fits_67 : decode b_M_fits 67 = .ok (.getfield 205, 3) := by decide +kernel
theorem d_M_fits_70 : decode b_M_fits 70 = .ok (.if_icmp .ne 7, 3) := by decide +kernel
theorem d_M_fits_73 : decode b_M_fits 73 = .ok (.iconst 1, 1) := by decide +kernel
theorem d_M_fits_74 : decode b_M_fits 74 = .ok (.goto 4, 3) := by decide +kernel
theorem d_M_fits_77 : decode b_M_fits 77 = .ok (.iconst 0, 1) := by decide +kernel
theorem d_M_fits_78 : decode b_M_fits 78 = .ok (.ireturn, 1) := by decide +kernel
theorem d_M_wasUsed_0 : decode b_M_wasUsed 0 = .ok (.iconst 0, 1) := by decide +kernel
theorem d_M_wasUsed_1 : decode b_M_wasUsed 1 = .ok (.istore_n 2, 1) := by decide +kernel
theorem d_M_wasUsed_2 : decode b_M_wasUsed 2 = .ok (.iload_n 2, 1) := by decide +kernel
theorem d_M_wasUsed_3 : decode b_M_wasUsed 3 = .ok (.aload_n 0, 1) := by decide +kernel
theorem d_M_wasUsed_4 : decode b_M_wasUsed 4 = .ok (.getfield 208, 3) := by decide +kernel
theorem d_M_wasUsed_7 : decode b_M_wasUsed 7 = .ok (.if_icmp .ge 21, 3) := by decide +kernel
theorem d_M_wasUsed_10 : decode b_M_wasUsed 10 = .ok (.aload_n 0, 1) := by decide +kernel
theorem d_M_wasUsed_11 : decode b_M_wasUsed 11 = .ok (.getfield 49, 3) := by decide +kernel
theorem d_M_wasUsed_14 : decode b_M_wasUsed 14 = .ok (.iload_n 2, 1) := by decide +kernel
theorem d_M_wasUsed_15 : decode b_M_wasUsed 15 = .ok (.iaload, 1) := by decide +kernel
theorem d_M_wasUsed_16 : decode b_M_wasUsed 16 = .ok (.iload_n 1, 1) := by decide +kernel
theorem d_M_wasUsed_17 : decode b_M_wasUsed 17 = .ok (.if_icmp .ne 5, 3) := by decide +kernel
theorem d_M_wasUsed_20 : decode b_M_wasUsed 20 = .ok (.iconst 1, 1) := by decide +kernel
theorem d_M_wasUsed_21 : decode b_M_wasUsed 21 = .ok (.ireturn, 1) := by decide +kernel
theorem d_M_wasUsed_22 : decode b_M_wasUsed 22 = .ok (.iinc 2 1, 3) := by decide +kernel
theorem d_M_wasUsed_25 : decode b_M_wasUsed 25 = .ok (.goto (-23), 3) := by decide +kernel
theorem d_M_wasUsed_28 : decode b_M_wasUsed 28 = .ok (.iconst 0, 1) := by decide +kernel
theorem d_M_wasUsed_29 : decode b_M_wasUsed 29 = .ok (.ireturn, 1) := by decide +kernel
theorem d_M_nextReplacer_0 : decode b_M_nextReplacer 0 = .ok (.iconst (-1), 1) := by decide +kernel
theorem d_M_nextReplacer_1 : decode b_M_nextReplacer 1 = .ok (.istore_n 1, 1) := by decide +kernel
theorem d_M_nextReplacer_2 : decode b_M_nextReplacer 2 = .ok (.iconst 0, 1) := by decide +kernel
theorem d_M_nextReplacer_3 : decode b_M_nextReplacer 3 = .ok (.istore_n 2, 1) := by decide +kernel
theorem d_M_nextReplacer_4 : decode b_M_nextReplacer 4 = .ok (.iload_n 2, 1) := by decide +kernel
theorem d_M_nextReplacer_5 : decode b_M_nextReplacer 5 = .ok (.aload_n 0, 1) := by decide +kernel
theorem d_M_nextReplacer_6 : decode b_M_nextReplacer 6 = .ok (.getfield 70, 3) := by decide +kernel
theorem d_M_nextReplacer_9 : decode b_M_nextReplacer 9 = .ok (.if_icmp .ge 52, 3) := by decide +kernel
theorem d_M_nextReplacer_12 : decode b_M_nextReplacer 12 = .ok (.aload_n 0, 1) := by decide +kernel
theorem d_M_nextReplacer_13 : decode b_M_nextReplacer 13 = .ok (.iload_n 2, 1) := by decide +kernel
theorem d_M_nextReplacer_14 : decode b_M_nextReplacer 14 = .ok (.invokevirtual 211, 3) := by decide +kernel
theorem d_M_nextReplacer_17 : decode b_M_nextReplacer 17 = .ok (.ifCond .eq 38, 3) := by decide +kernel
theorem d_M_nextReplacer_20 : decode b_M_nextReplacer 20 = .ok (.aload_n 0, 1) := by decide +kernel
theorem d_M_nextReplacer_21 : decode b_M_nextReplacer 21 = .ok (.iload_n 2, 1) := by decide +kernel
theorem d_M_nextReplacer_22 : decode b_M_nextReplacer 22 = .ok (.invokevirtual 214, 3) := by decide +kernel
theorem d_M_nextReplacer_25 : decode b_M_nextReplacer 25 = .ok (.ifCond .ne 30, 3) := by decide +kernel
theorem d_M_nextReplacer_28 : decode b_M_nextReplacer 28 = .ok (.iload_n 1, 1) := by decide +kernel
theorem d_M_nextReplacer_29 : decode b_M_nextReplacer 29 = .ok (.ifCond .lt 24, 3) := by decide +kernel
theorem d_M_nextReplacer_32 : decode b_M_nextReplacer 32 = .ok (.aload_n 0, 1) := by decide +kernel
theorem d_M_nextReplacer_33 : decode b_M_nextReplacer 33 = .ok (.getfield 25, 3) := by decide +kernel
theorem d_M_nextReplacer_36 : decode b_M_nextReplacer 36 = .ok (.bipush 95, 2) := by decide +kernel
theorem d_M_nextReplacer_38 : decode b_M_nextReplacer 38 = .ok (.iload_n 2, 1) := by decide +kernel
theorem d_M_nextReplacer_39 : decode b_M_nextReplacer 39 = .ok (.iadd, 1) := by decide +kernel
theorem d_M_nextReplacer_40 : decode b_M_nextReplacer 40 = .ok (.iaload, 1) := by decide +kernel
theorem d_M_nextReplacer_41 : decode b_M_nextReplacer 41 = .ok (.aload_n 0, 1) := by decide +kernel
theorem d_M_nextReplacer_42 : decode b_M_nextReplacer 42 = .ok (.getfield 25, 3) := by decide +kernel
theorem d_M_nextReplacer_45 : decode b_M_nextReplacer 45 = .ok (.bipush 95, 2) := by decide +kernel
theorem d_M_nextReplacer_47 : decode b_M_nextReplacer 47 = .ok (.iload_n 1, 1) := by decide +kernel
theorem d_M_nextReplacer_48 : decode b_M_nextReplacer 48 = .ok (.iadd, 1) := by decide +kernel
theorem d_M_nextReplacer_49 : decode b_M_nextReplacer 49 = .ok (.iaload, 1) := by decide +kernel
theorem d_M_nextReplacer_50 : decode b_M_nextReplacer 50 = .ok (.if_icmp .ge 5, 3) := by decide +kernel
theorem d_M_nextReplacer_53 : decode b_M_nextReplacer 53 = .ok (.iload_n 2, 1) := by decide +kernel
theorem d_M_nextReplacer_54 : decode b_M_nextReplacer 54 = .ok (.istore_n 1, 1) := by decide +kernel
theorem d_M_nextReplacer_55 : decode b_M_nextReplacer 55 = .ok (.iinc 2 1, 3) := by decide +kernel
theorem d_M_nextReplacer_58 : decode b_M_nextReplacer 58 = .ok (.goto (-54), 3) := by decide +kernel
theorem d_M_nextReplacer_61 : decode b_M_nextReplacer 61 = .ok (.iload_n 1, 1) := by decide +kernel
theorem d_M_nextReplacer_62 : decode b_M_nextReplacer 62 = .ok (.ireturn, 1) := by decide +kernel
theorem d_M_replaced_0 : decode b_M_replaced 0 = .ok (.aload_n 0, 1) := by decide +kernel
theorem d_M_replaced_1 : decode b_M_replaced 1 = .ok (.iload_n 1, 1) := by decide +kernel
theorem d_M_replaced_2 : decode b_M_replaced 2 = .ok (.putfield 202, 3) := by decide +kernel
theorem d_M_replaced_5 : decode b_M_replaced 5 = .ok (.aload_n 0, 1) := by decide +kernel
theorem d_M_replaced_6 : decode b_M_replaced 6 = .ok (.iload_n 2, 1) := by decide +kernel
theorem d_M_replaced_7 : decode b_M_replaced 7 = .ok (.putfield 205, 3) := by decide +kernel
theorem d_M_replaced_10 : decode b_M_replaced 10 = .ok (.aload_n 0, 1) := by decide +kernel
theorem d_M_replaced_11 : decode b_M_replaced 11 = .ok (.iload_n 3, 1) := by decide +kernel
theorem d_M_replaced_12 : decode b_M_replaced 12 = .ok (.iconst 0, 1) := by decide +kernel
theorem d_M_replaced_13 : decode b_M_replaced 13 = .ok (.bipush 99, 2) := by decide +kernel
theorem d_M_replaced_15 : decode b_M_replaced 15 = .ok (.invokestatic 186, 3) := by decide +kernel
theorem d_M_replaced_18 : decode b_M_replaced 18 = .ok (.putfield 217, 3) := by decide +kernel
theorem d_M_replaced_21 : decode b_M_replaced 21 = .ok (.aload_n 0, 1) := by decide +kernel
theorem d_M_replaced_22 : decode b_M_replaced 22 = .ok (.iconst 0, 1) := by decide +kernel
theorem d_M_replaced_23 : decode b_M_replaced 23 = .ok (.putfield 208, 3) := by decide +kernel
theorem d_M_replaced_26 : decode b_M_replaced 26 = .ok (.aload_n 0, 1) := by decide +kernel
theorem d_M_replaced_27 : decode b_M_replaced 27 = .ok (.invokevirtual 220, 3) := by decide +kernel
theorem d_M_replaced_30 : decode b_M_replaced 30 = .ok (.istore 4, 2) := by decide +kernel
theorem d_M_replaced_32 : decode b_M_replaced 32 = .ok (.iload 4, 2) := by decide +kernel
theorem d_M_replaced_34 : decode b_M_replaced 34 = .ok (.ifCond .lt 135, 3) := by decide +kernel
theorem d_M_replaced_37 : decode b_M_replaced 37 = .ok (.aload_n 0, 1) := by decide +kernel
theorem d_M_replaced_38 : decode b_M_replaced 38 = .ok (.getfield 49, 3) := by decide +kernel
theorem d_M_replaced_41 : decode b_M_replaced 41 = .ok (.aload_n 0, 1) := by decide +kernel
theorem d_M_replaced_42 : decode b_M_replaced 42 = .ok (.dup, 1) := by decide +kernel
theorem d_M_replaced_43 : decode b_M_replaced 43 = .ok (.getfield 208, 3) := by decide +kernel
theorem d_M_replaced_46 : decode b_M_replaced 46 = .ok (.dup_x1, 1) := by decide +kernel
theorem d_M_replaced_47 : decode b_M_replaced 47 = .ok (.iconst 1, 1) := by decide +kernel
theorem d_M_replaced_48 : decode b_M_replaced 48 = .ok (.iadd, 1) := by decide +kernel
theorem d_M_replaced_49 : decode b_M_replaced 49 = .ok (.putfield 208, 3) := by decide +kernel
theorem d_M_replaced_52 : decode b_M_replaced 52 = .ok (.iload 4, 2) := by decide +kernel
theorem d_M_replaced_54 : decode b_M_replaced 54 = .ok (.iastore, 1) := by decide +kernel
theorem d_M_replaced_55 : decode b_M_replaced 55 = .ok (.aload_n 0, 1) := by decide +kernel
theorem d_M_replaced_56 : decode b_M_replaced 56 = .ok (.getfield 9, 3) := by decide +kernel
theorem d_M_replaced_59 : decode b_M_replaced 59 = .ok (.iload 4, 2) := by decide +kernel
theorem d_M_replaced_61 : decode b_M_replaced 61 = .ok (.iaload, 1) := by decide +kernel
theorem d_M_replaced_62 : decode b_M_replaced 62 = .ok (.iconst 5, 1) := by decide +kernel
theorem d_M_replaced_63 : decode b_M_replaced 63 = .ok (.if_icmp .ne 22, 3) := by decide +kernel
theorem d_M_replaced_66 : decode b_M_replaced 66 = .ok (.aload_n 0, 1) := by decide +kernel
theorem d_M_replaced_67 : decode b_M_replaced 67 = .ok (.iconst 2, 1) := by decide +kernel
theorem d_M_replaced_68 : decode b_M_replaced 68 = .ok (.aload_n 0, 1) := by decide +kernel
theorem d_M_replaced_69 : decode b_M_replaced 69 = .ok (.getfield 217, 3) := by decide +kernel
theorem d_M_replaced_72 : decode b_M_replaced 72 = .ok (.imul, 1) := by decide +kernel
theorem d_M_replaced_73 : decode b_M_replaced 73 = .ok (.iconst 0, 1) := by decide +kernel
theorem d_M_replaced_74 : decode b_M_replaced 74 = .ok (.bipush 99, 2) := by decide +kernel
theorem d_M_replaced_76 : decode b_M_replaced 76 = .ok (.invokestatic 186, 3) := by decide +kernel
theorem d_M_replaced_79 : decode b_M_replaced 79 = .ok (.putfield 217, 3) := by decide +kernel
theorem d_M_replaced_82 : decode b_M_replaced 82 = .ok (.goto 78, 3) := by decide +kernel
theorem d_M_replaced_85 : decode b_M_replaced 85 = .ok (.aload_n 0, 1) := by decide +kernel
theorem d_M_replaced_86 : decode b_M_replaced 86 = .ok (.getfield 9, 3) := by decide +kernel
theorem d_M_replaced_89 : decode b_M_replaced 89 = .ok (.iload 4, 2) := by decide +kernel
theorem d_M_replaced_91 : decode b_M_replaced 91 = .ok (.iaload, 1) := by decide +kernel
theorem d_M_replaced_92 : decode b_M_replaced 92 = .ok (.bipush 6, 2) := by decide +kernel
theorem d_M_replaced_94 : decode b_M_replaced 94 = .ok (.if_icmp .ne 16, 3) := by decide +kernel
theorem d_M_replaced_97 : decode b_M_replaced 97 = .ok (.aload_n 0, 1) := by decide +kernel
theorem d_M_replaced_98 : decode b_M_replaced 98 = .ok (.iconst 1, 1) := by decide +kernel
theorem d_M_replaced_99 : decode b_M_replaced 99 = .ok (.aload_n 0, 1) := by decide +kernel
theorem d_M_replaced_100 : decode b_M_replaced 100 = .ok (.getfield 205, 3) := by decide +kernel
theorem d_M_replaced_103 : decode b_M_replaced 103 = .ok (.isub, 1) := by decide +kernel
theorem d_M_replaced_104 : decode b_M_replaced 104 = .ok (.putfield 205, 3) := by decide +kernel
theorem d_M_replaced_107 : decode b_M_replaced 107 = .ok (.goto 53, 3) := by decide +kernel
theorem d_M_replaced_110 : decode b_M_replaced 110 = .ok (.aload_n 0, 1) := by decide +kernel
theorem d_M_replaced_111 : decode b_M_replaced 111 = .ok (.getfield 9, 3) := by decide +kernel
theorem d_M_replaced_114 : decode b_M_replaced 114 = .ok (.iload 4, 2) := by decide +kernel
theorem d_M_replaced_116 : decode b_M_replaced 116 = .ok (.iaload, 1) := by decide +kernel
theorem d_M_replaced_117 : decode b_M_replaced 117 = .ok (.bipush 7, 2) := by decide +kernel
theorem d_M_replaced_119 : decode b_M_replaced 119 = .ok (.if_icmp .ne 28, 3) := by decide +kernel
theorem d_M_replaced_122 : decode b_M_replaced 122 = .ok (.aload_n 0, 1) := by decide +kernel
theorem d_M_replaced_123 : decode b_M_replaced 123 = .ok (.aload_n 0, 1) := by decide +kernel
theorem d_M_replaced_124 : decode b_M_replaced 124 = .ok (.getfield 217, 3) := by decide +kernel
theorem d_M_replaced_127 : decode b_M_replaced 127 = .ok (.aload_n 0, 1) := by decide +kernel
theorem d_M_replaced_128 : decode b_M_replaced 128 = .ok (.getfield 22, 3) := by decide +kernel
theorem d_M_replaced_131 : decode b_M_replaced 131 = .ok (.iload 4, 2) := by decide +kernel
theorem d_M_replaced_133 : decode b_M_replaced 133 = .ok (.iaload, 1) := by decide +kernel
theorem d_M_replaced_134 : decode b_M_replaced 134 = .ok (.isub, 1) := by decide +kernel
theorem d_M_replaced_135 : decode b_M_replaced 135 = .ok (.iconst 0, 1) := by decide +kernel
theorem d_M_replaced_136 : decode b_M_replaced 136 = .ok (.bipush 99, 2) := by decide +kernel
theorem d_M_replaced_138 : decode b_M_replaced 138 = .ok (.invokestatic 186, 3) := by decide +kernel
theorem d_M_replaced_141 : decode b_M_replaced 141 = .ok (.putfield 217, 3) := by decide +kernel
theorem d_M_replaced_144 : decode b_M_replaced 144 = .ok (.goto 16, 3) := by decide +kernel
theorem d_M_replaced_147 : decode b_M_replaced 147 = .ok (.aload_n 0, 1) := by decide +kernel
theorem d_M_replaced_148 : decode b_M_replaced 148 = .ok (.aload_n 0, 1) := by decide +kernel
theorem d_M_replaced_149 : decode b_M_replaced 149 = .ok (.getfield 19, 3) := by decide +kernel
theorem d_M_replaced_152 : decode b_M_replaced 152 = .ok (.iload 4, 2) := by decide +kernel
theorem d_M_replaced_154 : decode b_M_replaced 154 = .ok (.iaload, 1) := by decide +kernel
theorem d_M_replaced_155 : decode b_M_replaced 155 = .ok (.iconst 3, 1) := by decide +kernel
theorem d_M_replaced_156 : decode b_M_replaced 156 = .ok (.irem, 1) := by decide +kernel
theorem d_M_replaced_157 : decode b_M_replaced 157 = .ok (.putfield 202, 3) := by decide +kernel
theorem d_M_replaced_160 : decode b_M_replaced 160 = .ok (.aload_n 0, 1) := by decide +kernel
theorem d_M_replaced_161 : decode b_M_replaced 161 = .ok (.invokevirtual 220, 3) := by decide +kernel
theorem d_M_replaced_164 : decode b_M_replaced 164 = .ok (.istore 4, 2) := by decide +kernel
theorem d_M_replaced_166 : decode b_M_replaced 166 = .ok (.goto (-134), 3) := by decide +kernel
theorem d_M_replaced_169 : decode b_M_replaced 169 = .ok (.return_, 1) := by decide +kernel
theorem d_M_draw_0 : decode b_M_draw 0 = .ok (.aload_n 0, 1) := by decide +kernel
theorem d_M_draw_1 : decode b_M_draw 1 = .ok (.getfield 25, 3) := by decide +kernel
theorem d_M_draw_4 : decode b_M_draw 4 = .ok (.iconst 3, 1) := by decide +kernel
theorem d_M_draw_5 : decode b_M_draw 5 = .ok (.aload_n 0, 1) := by decide +kernel
theorem d_M_draw_6 : decode b_M_draw 6 = .ok (.getfield 25, 3) := by decide +kernel
theorem d_M_draw_9 : decode b_M_draw 9 = .ok (.iconst 3, 1) := by decide +kernel
theorem d_M_draw_10 : decode b_M_draw 10 = .ok (.iaload, 1) := by decide +kernel
theorem d_M_draw_11 : decode b_M_draw 11 = .ok (.ldc 223, 2) := by decide +kernel
theorem d_M_draw_13 : decode b_M_draw 13 = .ok (.imul, 1) := by decide +kernel
theorem d_M_draw_14 : decode b_M_draw 14 = .ok (.sipush 12345, 3) := by decide +kernel
theorem d_M_draw_17 : decode b_M_draw 17 = .ok (.iadd, 1) := by decide +kernel
theorem d_M_draw_18 : decode b_M_draw 18 = .ok (.iastore, 1) := by decide +kernel
theorem d_M_draw_19 : decode b_M_draw 19 = .ok (.aload_n 0, 1) := by decide +kernel
theorem d_M_draw_20 : decode b_M_draw 20 = .ok (.getfield 25, 3) := by decide +kernel
theorem d_M_draw_23 : decode b_M_draw 23 = .ok (.iconst 3, 1) := by decide +kernel
theorem d_M_draw_24 : decode b_M_draw 24 = .ok (.iaload, 1) := by decide +kernel
theorem d_M_draw_25 : decode b_M_draw 25 = .ok (.bipush 16, 2) := by decide +kernel
theorem d_M_draw_27 : decode b_M_draw 27 = .ok (.iushr, 1) := by decide +kernel
theorem d_M_draw_28 : decode b_M_draw 28 = .ok (.iload_n 1, 1) := by decide +kernel
theorem d_M_draw_29 : decode b_M_draw 29 = .ok (.irem, 1) := by decide +kernel
theorem d_M_draw_30 : decode b_M_draw 30 = .ok (.ireturn, 1) := by decide +kernel
theorem d_M_drawOne_0 : decode b_M_drawOne 0 = .ok (.aload_n 0, 1) := by decide +kernel
theorem d_M_drawOne_1 : decode b_M_drawOne 1 = .ok (.aload_n 0, 1) := by decide +kernel
theorem d_M_drawOne_2 : decode b_M_drawOne 2 = .ok (.getfield 205, 3) := by decide +kernel
theorem d_M_drawOne_5 : decode b_M_drawOne 5 = .ok (.iconst 0, 1) := by decide +kernel
theorem d_M_drawOne_6 : decode b_M_drawOne 6 = .ok (.invokevirtual 168, 3) := by decide +kernel
theorem d_M_drawOne_9 : decode b_M_drawOne 9 = .ok (.istore_n 1, 1) := by decide +kernel
theorem d_M_drawOne_10 : decode b_M_drawOne 10 = .ok (.iload_n 1, 1) := by decide +kernel
theorem d_M_drawOne_11 : decode b_M_drawOne 11 = .ok (.ifCond .ne 35, 3) := by decide +kernel
theorem d_M_drawOne_14 : decode b_M_drawOne 14 = .ok (.aload_n 0, 1) := by decide +kernel
theorem d_M_drawOne_15 : decode b_M_drawOne 15 = .ok (.getfield 25, 3) := by decide +kernel
theorem d_M_drawOne_18 : decode b_M_drawOne 18 = .ok (.iconst 0, 1) := by decide +kernel
theorem d_M_drawOne_19 : decode b_M_drawOne 19 = .ok (.aload_n 0, 1) := by decide +kernel
theorem d_M_drawOne_20 : decode b_M_drawOne 20 = .ok (.getfield 205, 3) := by decide +kernel
theorem d_M_drawOne_23 : decode b_M_drawOne 23 = .ok (.iadd, 1) := by decide +kernel
theorem d_M_drawOne_24 : decode b_M_drawOne 24 = .ok (.aload_n 0, 1) := by decide +kernel
theorem d_M_drawOne_25 : decode b_M_drawOne 25 = .ok (.getfield 25, 3) := by decide +kernel
theorem d_M_drawOne_28 : decode b_M_drawOne 28 = .ok (.iconst 0, 1) := by decide +kernel
theorem d_M_drawOne_29 : decode b_M_drawOne 29 = .ok (.aload_n 0, 1) := by decide +kernel
theorem d_M_drawOne_30 : decode b_M_drawOne 30 = .ok (.getfield 205, 3) := by decide +kernel
theorem d_M_drawOne_33 : decode b_M_drawOne 33 = .ok (.iadd, 1) := by decide +kernel
theorem d_M_drawOne_34 : decode b_M_drawOne 34 = .ok (.iaload, 1) := by decide +kernel
theorem d_M_drawOne_35 : decode b_M_drawOne 35 = .ok (.iconst 1, 1) := by decide +kernel
theorem d_M_drawOne_36 : decode b_M_drawOne 36 = .ok (.isub, 1) := by decide +kernel
theorem d_M_drawOne_37 : decode b_M_drawOne 37 = .ok (.bipush (-99), 2) := by decide +kernel
theorem d_M_drawOne_39 : decode b_M_drawOne 39 = .ok (.bipush 99, 2) := by decide +kernel
theorem d_M_drawOne_41 : decode b_M_drawOne 41 = .ok (.invokestatic 186, 3) := by decide +kernel
theorem d_M_drawOne_44 : decode b_M_drawOne 44 = .ok (.iastore, 1) := by decide +kernel
theorem d_M_drawOne_45 : decode b_M_drawOne 45 = .ok (.return_, 1) := by decide +kernel
theorem d_M_drawOne_46 : decode b_M_drawOne 46 = .ok (.aload_n 0, 1) := by decide +kernel
theorem d_M_drawOne_47 : decode b_M_drawOne 47 = .ok (.iload_n 1, 1) := by decide +kernel
theorem d_M_drawOne_48 : decode b_M_drawOne 48 = .ok (.invokevirtual 224, 3) := by decide +kernel
theorem d_M_drawOne_51 : decode b_M_drawOne 51 = .ok (.istore_n 2, 1) := by decide +kernel
theorem d_M_drawOne_52 : decode b_M_drawOne 52 = .ok (.iconst 0, 1) := by decide +kernel
theorem d_M_drawOne_53 : decode b_M_drawOne 53 = .ok (.istore_n 3, 1) := by decide +kernel
theorem d_M_drawOne_54 : decode b_M_drawOne 54 = .ok (.iload_n 3, 1) := by decide +kernel
theorem d_M_drawOne_55 : decode b_M_drawOne 55 = .ok (.aload_n 0, 1) := by decide +kernel
theorem d_M_drawOne_56 : decode b_M_drawOne 56 = .ok (.getfield 70, 3) := by decide +kernel
theorem d_M_drawOne_59 : decode b_M_drawOne 59 = .ok (.if_icmp .ge 48, 3) := by decide +kernel
theorem d_M_drawOne_62 : decode b_M_drawOne 62 = .ok (.aload_n 0, 1) := by decide +kernel
theorem d_M_drawOne_63 : decode b_M_drawOne 63 = .ok (.getfield 13, 3) := by decide +kernel
theorem d_M_drawOne_66 : decode b_M_drawOne 66 = .ok (.iload_n 3, 1) := by decide +kernel
theorem d_M_drawOne_67 : decode b_M_drawOne 67 = .ok (.iaload, 1) := by decide +kernel
theorem d_M_drawOne_68 : decode b_M_drawOne 68 = .ok (.aload_n 0, 1) := by decide +kernel
theorem d_M_drawOne_69 : decode b_M_drawOne 69 = .ok (.getfield 205, 3) := by decide +kernel
theorem d_M_drawOne_72 : decode b_M_drawOne 72 = .ok (.if_icmp .ne 29, 3) := by decide +kernel
theorem d_M_drawOne_75 : decode b_M_drawOne 75 = .ok (.aload_n 0, 1) := by decide +kernel
theorem d_M_drawOne_76 : decode b_M_drawOne 76 = .ok (.iload_n 3, 1) := by decide +kernel
theorem d_M_drawOne_77 : decode b_M_drawOne 77 = .ok (.iconst 0, 1) := by decide +kernel
theorem d_M_drawOne_78 : decode b_M_drawOne 78 = .ok (.invokevirtual 164, 3) := by decide +kernel
theorem d_M_drawOne_81 : decode b_M_drawOne 81 = .ok (.ifCond .eq 20, 3) := by decide +kernel
theorem d_M_drawOne_84 : decode b_M_drawOne 84 = .ok (.iload_n 2, 1) := by decide +kernel
theorem d_M_drawOne_85 : decode b_M_drawOne 85 = .ok (.ifCond .ne 13, 3) := by decide +kernel
theorem d_M_drawOne_88 : decode b_M_drawOne 88 = .ok (.aload_n 0, 1) := by decide +kernel
theorem d_M_drawOne_89 : decode b_M_drawOne 89 = .ok (.getfield 25, 3) := by decide +kernel
theorem d_M_drawOne_92 : decode b_M_drawOne 92 = .ok (.bipush 71, 2) := by decide +kernel
theorem d_M_drawOne_94 : decode b_M_drawOne 94 = .ok (.iload_n 3, 1) := by decide +kernel
theorem d_M_drawOne_95 : decode b_M_drawOne 95 = .ok (.iadd, 1) := by decide +kernel
theorem d_M_drawOne_96 : decode b_M_drawOne 96 = .ok (.iconst 1, 1) := by decide +kernel
theorem d_M_drawOne_97 : decode b_M_drawOne 97 = .ok (.iastore, 1) := by decide +kernel
theorem d_M_drawOne_98 : decode b_M_drawOne 98 = .ok (.iinc 2 (-1), 3) := by decide +kernel
theorem d_M_drawOne_101 : decode b_M_drawOne 101 = .ok (.iinc 3 1, 3) := by decide +kernel
theorem d_M_drawOne_104 : decode b_M_drawOne 104 = .ok (.goto (-50), 3) := by decide +kernel
theorem d_M_drawOne_107 : decode b_M_drawOne 107 = .ok (.return_, 1) := by decide +kernel
theorem d_M_push_0 : decode b_M_push 0 = .ok (.aload_n 0, 1) := by decide +kernel
theorem d_M_push_1 : decode b_M_push 1 = .ok (.getfield 25, 3) := by decide +kernel
theorem d_M_push_4 : decode b_M_push 4 = .ok (.bipush 6, 2) := by decide +kernel
theorem d_M_push_6 : decode b_M_push 6 = .ok (.iaload, 1) := by decide +kernel
theorem d_M_push_7 : decode b_M_push 7 = .ok (.bipush 64, 2) := by decide +kernel
theorem d_M_push_9 : decode b_M_push 9 = .ok (.if_icmp .ge 30, 3) := by decide +kernel
theorem d_M_push_12 : decode b_M_push 12 = .ok (.aload_n 0, 1) := by decide +kernel
theorem d_M_push_13 : decode b_M_push 13 = .ok (.getfield 25, 3) := by decide +kernel
theorem d_M_push_16 : decode b_M_push 16 = .ok (.bipush 7, 2) := by decide +kernel
theorem d_M_push_18 : decode b_M_push 18 = .ok (.aload_n 0, 1) := by decide +kernel
theorem d_M_push_19 : decode b_M_push 19 = .ok (.getfield 25, 3) := by decide +kernel
theorem d_M_push_22 : decode b_M_push 22 = .ok (.bipush 6, 2) := by decide +kernel
theorem d_M_push_24 : decode b_M_push 24 = .ok (.iaload, 1) := by decide +kernel
theorem d_M_push_25 : decode b_M_push 25 = .ok (.iadd, 1) := by decide +kernel
theorem d_M_push_26 : decode b_M_push 26 = .ok (.iload_n 1, 1) := by decide +kernel
theorem d_M_push_27 : decode b_M_push 27 = .ok (.iastore, 1) := by decide +kernel
theorem d_M_push_28 : decode b_M_push 28 = .ok (.aload_n 0, 1) := by decide +kernel
theorem d_M_push_29 : decode b_M_push 29 = .ok (.getfield 25, 3) := by decide +kernel
theorem d_M_push_32 : decode b_M_push 32 = .ok (.bipush 6, 2) := by decide +kernel
theorem d_M_push_34 : decode b_M_push 34 = .ok (.dup2, 1) := by decide +kernel
theorem d_M_push_35 : decode b_M_push 35 = .ok (.iaload, 1) := by decide +kernel
theorem d_M_push_36 : decode b_M_push 36 = .ok (.iconst 1, 1) := by decide +kernel
theorem d_M_push_37 : decode b_M_push 37 = .ok (.iadd, 1) := by decide +kernel
theorem d_M_push_38 : decode b_M_push 38 = .ok (.iastore, 1) := by decide +kernel
theorem d_M_push_39 : decode b_M_push 39 = .ok (.return_, 1) := by decide +kernel
theorem d_M_echoes_0 : decode b_M_echoes 0 = .ok (.iconst (-1), 1) := by decide +kernel
theorem d_M_echoes_1 : decode b_M_echoes 1 = .ok (.istore_n 1, 1) := by decide +kernel
theorem d_M_echoes_2 : decode b_M_echoes 2 = .ok (.iconst 1, 1) := by decide +kernel
theorem d_M_echoes_3 : decode b_M_echoes 3 = .ok (.istore_n 2, 1) := by decide +kernel
theorem d_M_echoes_4 : decode b_M_echoes 4 = .ok (.iload_n 2, 1) := by decide +kernel
theorem d_M_echoes_5 : decode b_M_echoes 5 = .ok (.ifCond .eq 198, 3) := by decide +kernel
theorem d_M_echoes_8 : decode b_M_echoes 8 = .ok (.iconst (-1), 1) := by decide +kernel
theorem d_M_echoes_9 : decode b_M_echoes 9 = .ok (.istore_n 3, 1) := by decide +kernel
theorem d_M_echoes_10 : decode b_M_echoes 10 = .ok (.iconst 0, 1) := by decide +kernel
theorem d_M_echoes_11 : decode b_M_echoes 11 = .ok (.istore 4, 2) := by decide +kernel
theorem d_M_echoes_13 : decode b_M_echoes 13 = .ok (.iload 4, 2) := by decide +kernel
theorem d_M_echoes_15 : decode b_M_echoes 15 = .ok (.aload_n 0, 1) := by decide +kernel
theorem d_M_echoes_16 : decode b_M_echoes 16 = .ok (.getfield 70, 3) := by decide +kernel
theorem d_M_echoes_19 : decode b_M_echoes 19 = .ok (.if_icmp .ge 88, 3) := by decide +kernel
theorem d_M_echoes_22 : decode b_M_echoes 22 = .ok (.aload_n 0, 1) := by decide +kernel
theorem d_M_echoes_23 : decode b_M_echoes 23 = .ok (.iload 4, 2) := by decide +kernel
theorem d_M_echoes_25 : decode b_M_echoes 25 = .ok (.iconst 3, 1) := by decide +kernel
theorem d_M_echoes_26 : decode b_M_echoes 26 = .ok (.invokevirtual 164, 3) := by decide +kernel
theorem d_M_echoes_29 : decode b_M_echoes 29 = .ok (.ifCond .eq 72, 3) := by decide +kernel
theorem d_M_echoes_32 : decode b_M_echoes 32 = .ok (.aload_n 0, 1) := by decide +kernel
theorem d_M_echoes_33 : decode b_M_echoes 33 = .ok (.getfield 9, 3) := by decide +kernel
theorem d_M_echoes_36 : decode b_M_echoes 36 = .ok (.iload 4, 2) := by decide +kernel
theorem d_M_echoes_38 : decode b_M_echoes 38 = .ok (.iaload, 1) := by decide +kernel
theorem d_M_echoes_39 : decode b_M_echoes 39 = .ok (.bipush 14, 2) := by decide +kernel
theorem d_M_echoes_41 : decode b_M_echoes 41 = .ok (.if_icmp .ne 60, 3) := by decide +kernel
theorem d_M_echoes_44 : decode b_M_echoes 44 = .ok (.aload_n 0, 1) := by decide +kernel
theorem d_M_echoes_45 : decode b_M_echoes 45 = .ok (.getfield 16, 3) := by decide +kernel
theorem d_M_echoes_48 : decode b_M_echoes 48 = .ok (.iload 4, 2) := by decide +kernel
theorem d_M_echoes_50 : decode b_M_echoes 50 = .ok (.iaload, 1) := by decide +kernel
theorem d_M_echoes_51 : decode b_M_echoes 51 = .ok (.aload_n 0, 1) := by decide +kernel
theorem d_M_echoes_52 : decode b_M_echoes 52 = .ok (.getfield 202, 3) := by decide +kernel
theorem d_M_echoes_55 : decode b_M_echoes 55 = .ok (.if_icmp .ne 46, 3) := by decide +kernel
theorem d_M_echoes_58 : decode b_M_echoes 58 = .ok (.aload_n 0, 1) := by decide +kernel
theorem d_M_echoes_59 : decode b_M_echoes 59 = .ok (.getfield 25, 3) := by decide +kernel
theorem d_M_echoes_62 : decode b_M_echoes 62 = .ok (.bipush 95, 2) := by decide +kernel
theorem d_M_echoes_64 : decode b_M_echoes 64 = .ok (.iload 4, 2) := by decide +kernel
theorem d_M_echoes_66 : decode b_M_echoes 66 = .ok (.iadd, 1) := by decide +kernel
theorem d_M_echoes_67 : decode b_M_echoes 67 = .ok (.iaload, 1) := by decide +kernel
theorem d_M_echoes_68 : decode b_M_echoes 68 = .ok (.iload_n 1, 1) := by decide +kernel
theorem d_M_echoes_69 : decode b_M_echoes 69 = .ok (.if_icmp .le 32, 3) := by decide +kernel
theorem d_M_echoes_72 : decode b_M_echoes 72 = .ok (.iload_n 3, 1) := by decide +kernel
theorem d_M_echoes_73 : decode b_M_echoes 73 = .ok (.ifCond .lt 25, 3) := by decide +kernel
theorem d_M_echoes_76 : decode b_M_echoes 76 = .ok (.aload_n 0, 1) := by decide +kernel
theorem d_M_echoes_77 : decode b_M_echoes 77 = .ok (.getfield 25, 3) := by decide +kernel
theorem d_M_echoes_80 : decode b_M_echoes 80 = .ok (.bipush 95, 2) := by decide +kernel
theorem d_M_echoes_82 : decode b_M_echoes 82 = .ok (.iload 4, 2) := by decide +kernel
theorem d_M_echoes_84 : decode b_M_echoes 84 = .ok (.iadd, 1) := by decide +kernel
theorem d_M_echoes_85 : decode b_M_echoes 85 = .ok (.iaload, 1) := by decide +kernel
theorem d_M_echoes_86 : decode b_M_echoes 86 = .ok (.aload_n 0, 1) := by decide +kernel
theorem d_M_echoes_87 : decode b_M_echoes 87 = .ok (.getfield 25, 3) := by decide +kernel
theorem d_M_echoes_90 : decode b_M_echoes 90 = .ok (.bipush 95, 2) := by decide +kernel
theorem d_M_echoes_92 : decode b_M_echoes 92 = .ok (.iload_n 3, 1) := by decide +kernel
theorem d_M_echoes_93 : decode b_M_echoes 93 = .ok (.iadd, 1) := by decide +kernel
theorem d_M_echoes_94 : decode b_M_echoes 94 = .ok (.iaload, 1) := by decide +kernel
theorem d_M_echoes_95 : decode b_M_echoes 95 = .ok (.if_icmp .ge 6, 3) := by decide +kernel
theorem d_M_echoes_98 : decode b_M_echoes 98 = .ok (.iload 4, 2) := by decide +kernel
theorem d_M_echoes_100 : decode b_M_echoes 100 = .ok (.istore_n 3, 1) := by decide +kernel
theorem d_M_echoes_101 : decode b_M_echoes 101 = .ok (.iinc 4 1, 3) := by decide +kernel
theorem d_M_echoes_104 : decode b_M_echoes 104 = .ok (.goto (-91), 3) := by decide +kernel
theorem d_M_echoes_107 : decode b_M_echoes 107 = .ok (.iload_n 3, 1) := by decide +kernel
theorem d_M_echoes_108 : decode b_M_echoes 108 = .ok (.ifCond .lt 7, 3) := by decide +kernel
theorem d_M_echoes_111 : decode b_M_echoes 111 = .ok (.iconst 1, 1) := by decide +kernel
theorem d_M_echoes_112 : decode b_M_echoes 112 = .ok (.goto 4, 3) := by decide +kernel
theorem d_M_echoes_115 : decode b_M_echoes 115 = .ok (.iconst 0, 1) := by decide +kernel
theorem d_M_echoes_116 : decode b_M_echoes 116 = .ok (.istore_n 2, 1) := by decide +kernel
theorem d_M_echoes_117 : decode b_M_echoes 117 = .ok (.iload_n 2, 1) := by decide +kernel
theorem d_M_echoes_118 : decode b_M_echoes 118 = .ok (.ifCond .eq 82, 3) := by decide +kernel
theorem d_M_echoes_121 : decode b_M_echoes 121 = .ok (.aload_n 0, 1) := by decide +kernel
theorem d_M_echoes_122 : decode b_M_echoes 122 = .ok (.getfield 25, 3) := by decide +kernel
theorem d_M_echoes_125 : decode b_M_echoes 125 = .ok (.bipush 95, 2) := by decide +kernel
theorem d_M_echoes_127 : decode b_M_echoes 127 = .ok (.iload_n 3, 1) := by decide +kernel
theorem d_M_echoes_128 : decode b_M_echoes 128 = .ok (.iadd, 1) := by decide +kernel
theorem d_M_echoes_129 : decode b_M_echoes 129 = .ok (.iaload, 1) := by decide +kernel
theorem d_M_echoes_130 : decode b_M_echoes 130 = .ok (.istore_n 1, 1) := by decide +kernel
theorem d_M_echoes_131 : decode b_M_echoes 131 = .ok (.aload_n 0, 1) := by decide +kernel
theorem d_M_echoes_132 : decode b_M_echoes 132 = .ok (.getfield 22, 3) := by decide +kernel
theorem d_M_echoes_135 : decode b_M_echoes 135 = .ok (.iload_n 3, 1) := by decide +kernel
theorem d_M_echoes_136 : decode b_M_echoes 136 = .ok (.iaload, 1) := by decide +kernel
theorem d_M_echoes_137 : decode b_M_echoes 137 = .ok (.iconst 2, 1) := by decide +kernel
theorem d_M_echoes_138 : decode b_M_echoes 138 = .ok (.irem, 1) := by decide +kernel
theorem d_M_echoes_139 : decode b_M_echoes 139 = .ok (.ifCond .eq 12, 3) := by decide +kernel
theorem d_M_echoes_142 : decode b_M_echoes 142 = .ok (.aload_n 0, 1) := by decide +kernel
theorem d_M_echoes_143 : decode b_M_echoes 143 = .ok (.getfield 13, 3) := by decide +kernel
theorem d_M_echoes_146 : decode b_M_echoes 146 = .ok (.iload_n 3, 1) := by decide +kernel
theorem d_M_echoes_147 : decode b_M_echoes 147 = .ok (.iaload, 1) := by decide +kernel
theorem d_M_echoes_148 : decode b_M_echoes 148 = .ok (.goto 11, 3) := by decide +kernel
theorem d_M_echoes_151 : decode b_M_echoes 151 = .ok (.iconst 1, 1) := by decide +kernel
theorem d_M_echoes_152 : decode b_M_echoes 152 = .ok (.aload_n 0, 1) := by decide +kernel
theorem d_M_echoes_153 : decode b_M_echoes 153 = .ok (.getfield 13, 3) := by decide +kernel
theorem d_M_echoes_156 : decode b_M_echoes 156 = .ok (.iload_n 3, 1) := by decide +kernel
theorem d_M_echoes_157 : decode b_M_echoes 157 = .ok (.iaload, 1) := by decide +kernel
theorem d_M_echoes_158 : decode b_M_echoes 158 = .ok (.isub, 1) := by decide +kernel
theorem d_M_echoes_159 : decode b_M_echoes 159 = .ok (.istore 4, 2) := by decide +kernel
theorem d_M_echoes_161 : decode b_M_echoes 161 = .ok (.aload_n 0, 1) := by decide +kernel
theorem d_M_echoes_162 : decode b_M_echoes 162 = .ok (.sipush 10000, 3) := by decide +kernel
theorem d_M_echoes_165 : decode b_M_echoes 165 = .ok (.sipush 1000, 3) := by decide +kernel
theorem d_M_echoes_168 : decode b_M_echoes 168 = .ok (.aload_n 0, 1) := by decide +kernel
theorem d_M_echoes_169 : decode b_M_echoes 169 = .ok (.getfield 19, 3) := by decide +kernel
theorem d_M_echoes_172 : decode b_M_echoes 172 = .ok (.iload_n 3, 1) := by decide +kernel
theorem d_M_echoes_173 : decode b_M_echoes 173 = .ok (.iaload, 1) := by decide +kernel
theorem d_M_echoes_174 : decode b_M_echoes 174 = .ok (.iconst 3, 1) := by decide +kernel
theorem d_M_echoes_175 : decode b_M_echoes 175 = .ok (.irem, 1) := by decide +kernel
theorem d_M_echoes_176 : decode b_M_echoes 176 = .ok (.imul, 1) := by decide +kernel
theorem d_M_echoes_177 : decode b_M_echoes 177 = .ok (.iadd, 1) := by decide +kernel
theorem d_M_echoes_178 : decode b_M_echoes 178 = .ok (.bipush 100, 2) := by decide +kernel
theorem d_M_echoes_180 : decode b_M_echoes 180 = .ok (.iload 4, 2) := by decide +kernel
theorem d_M_echoes_182 : decode b_M_echoes 182 = .ok (.imul, 1) := by decide +kernel
theorem d_M_echoes_183 : decode b_M_echoes 183 = .ok (.iadd, 1) := by decide +kernel
theorem d_M_echoes_184 : decode b_M_echoes 184 = .ok (.aload_n 0, 1) := by decide +kernel
theorem d_M_echoes_185 : decode b_M_echoes 185 = .ok (.getfield 22, 3) := by decide +kernel
theorem d_M_echoes_188 : decode b_M_echoes 188 = .ok (.iload_n 3, 1) := by decide +kernel
theorem d_M_echoes_189 : decode b_M_echoes 189 = .ok (.iaload, 1) := by decide +kernel
theorem d_M_echoes_190 : decode b_M_echoes 190 = .ok (.iconst 0, 1) := by decide +kernel
theorem d_M_echoes_191 : decode b_M_echoes 191 = .ok (.bipush 99, 2) := by decide +kernel
theorem d_M_echoes_193 : decode b_M_echoes 193 = .ok (.invokestatic 186, 3) := by decide +kernel
theorem d_M_echoes_196 : decode b_M_echoes 196 = .ok (.iadd, 1) := by decide +kernel
theorem d_M_echoes_197 : decode b_M_echoes 197 = .ok (.invokevirtual 227, 3) := by decide +kernel
theorem d_M_echoes_200 : decode b_M_echoes 200 = .ok (.goto (-196), 3) := by decide +kernel
theorem d_M_echoes_203 : decode b_M_echoes 203 = .ok (.return_, 1) := by decide +kernel
theorem d_M_event_0 : decode b_M_event 0 = .ok (.aload_n 0, 1) := by decide +kernel
theorem d_M_event_1 : decode b_M_event 1 = .ok (.iload_n 1, 1) := by decide +kernel
theorem d_M_event_2 : decode b_M_event 2 = .ok (.iload_n 2, 1) := by decide +kernel
theorem d_M_event_3 : decode b_M_event 3 = .ok (.iload_n 3, 1) := by decide +kernel
theorem d_M_event_4 : decode b_M_event 4 = .ok (.invokevirtual 230, 3) := by decide +kernel
theorem d_M_event_7 : decode b_M_event 7 = .ok (.aload_n 0, 1) := by decide +kernel
theorem d_M_event_8 : decode b_M_event 8 = .ok (.getfield 234, 3) := by decide +kernel
theorem d_M_event_11 : decode b_M_event 11 = .ok (.ifCond .eq 49, 3) := by decide +kernel
theorem d_M_event_14 : decode b_M_event 14 = .ok (.aload_n 0, 1) := by decide +kernel
theorem d_M_event_15 : decode b_M_event 15 = .ok (.getfield 238, 3) := by decide +kernel
theorem d_M_event_18 : decode b_M_event 18 = .ok (.bipush 40, 2) := by decide +kernel
theorem d_M_event_20 : decode b_M_event 20 = .ok (.if_icmp .ge 40, 3) := by decide +kernel
theorem d_M_event_23 : decode b_M_event 23 = .ok (.aload_n 0, 1) := by decide +kernel
theorem d_M_event_24 : decode b_M_event 24 = .ok (.getfield 67, 3) := by decide +kernel
theorem d_M_event_27 : decode b_M_event 27 = .ok (.aload_n 0, 1) := by decide +kernel
theorem d_M_event_28 : decode b_M_event 28 = .ok (.dup, 1) := by decide +kernel
theorem d_M_event_29 : decode b_M_event 29 = .ok (.getfield 238, 3) := by decide +kernel
theorem d_M_event_32 : decode b_M_event 32 = .ok (.dup_x1, 1) := by decide +kernel
theorem d_M_event_33 : decode b_M_event 33 = .ok (.iconst 1, 1) := by decide +kernel
theorem d_M_event_34 : decode b_M_event 34 = .ok (.iadd, 1) := by decide +kernel
theorem d_M_event_35 : decode b_M_event 35 = .ok (.putfield 238, 3) := by decide +kernel
theorem d_M_event_38 : decode b_M_event 38 = .ok (.sipush 1000, 3) := by decide +kernel
theorem d_M_event_41 : decode b_M_event 41 = .ok (.aload_n 0, 1) := by decide +kernel
theorem d_M_event_42 : decode b_M_event 42 = .ok (.getfield 202, 3) := by decide +kernel
theorem d_M_event_45 : decode b_M_event 45 = .ok (.imul, 1) := by decide +kernel
theorem d_M_event_46 : decode b_M_event 46 = .ok (.bipush 100, 2) := by decide +kernel
theorem d_M_event_48 : decode b_M_event 48 = .ok (.aload_n 0, 1) := by decide +kernel
theorem d_M_event_49 : decode b_M_event 49 = .ok (.getfield 205, 3) := by decide +kernel
theorem d_M_event_52 : decode b_M_event 52 = .ok (.imul, 1) := by decide +kernel
theorem d_M_event_53 : decode b_M_event 53 = .ok (.iadd, 1) := by decide +kernel
theorem d_M_event_54 : decode b_M_event 54 = .ok (.aload_n 0, 1) := by decide +kernel
theorem d_M_event_55 : decode b_M_event 55 = .ok (.getfield 217, 3) := by decide +kernel
theorem d_M_event_58 : decode b_M_event 58 = .ok (.iadd, 1) := by decide +kernel
theorem d_M_event_59 : decode b_M_event 59 = .ok (.iastore, 1) := by decide +kernel
theorem d_M_event_60 : decode b_M_event 60 = .ok (.aload_n 0, 1) := by decide +kernel
theorem d_M_event_61 : decode b_M_event 61 = .ok (.getfield 202, 3) := by decide +kernel
theorem d_M_event_64 : decode b_M_event 64 = .ok (.iconst 1, 1) := by decide +kernel
theorem d_M_event_65 : decode b_M_event 65 = .ok (.if_icmp .ne 40, 3) := by decide +kernel
theorem d_M_event_68 : decode b_M_event 68 = .ok (.aload_n 0, 1) := by decide +kernel
theorem d_M_event_69 : decode b_M_event 69 = .ok (.getfield 25, 3) := by decide +kernel
theorem d_M_event_72 : decode b_M_event 72 = .ok (.iconst 0, 1) := by decide +kernel
theorem d_M_event_73 : decode b_M_event 73 = .ok (.aload_n 0, 1) := by decide +kernel
theorem d_M_event_74 : decode b_M_event 74 = .ok (.getfield 205, 3) := by decide +kernel
theorem d_M_event_77 : decode b_M_event 77 = .ok (.iadd, 1) := by decide +kernel
theorem d_M_event_78 : decode b_M_event 78 = .ok (.aload_n 0, 1) := by decide +kernel
theorem d_M_event_79 : decode b_M_event 79 = .ok (.getfield 25, 3) := by decide +kernel
theorem d_M_event_82 : decode b_M_event 82 = .ok (.iconst 0, 1) := by decide +kernel
theorem d_M_event_83 : decode b_M_event 83 = .ok (.aload_n 0, 1) := by decide +kernel
theorem d_M_event_84 : decode b_M_event 84 = .ok (.getfield 205, 3) := by decide +kernel
theorem d_M_event_87 : decode b_M_event 87 = .ok (.iadd, 1) := by decide +kernel
theorem d_M_event_88 : decode b_M_event 88 = .ok (.iaload, 1) := by decide +kernel
theorem d_M_event_89 : decode b_M_event 89 = .ok (.aload_n 0, 1) := by decide +kernel
theorem d_M_event_90 : decode b_M_event 90 = .ok (.getfield 217, 3) := by decide +kernel
theorem d_M_event_93 : decode b_M_event 93 = .ok (.isub, 1) := by decide +kernel
theorem d_M_event_94 : decode b_M_event 94 = .ok (.bipush (-99), 2) := by decide +kernel
theorem d_M_event_96 : decode b_M_event 96 = .ok (.bipush 99, 2) := by decide +kernel
theorem d_M_event_98 : decode b_M_event 98 = .ok (.invokestatic 186, 3) := by decide +kernel
theorem d_M_event_101 : decode b_M_event 101 = .ok (.iastore, 1) := by decide +kernel
theorem d_M_event_102 : decode b_M_event 102 = .ok (.goto 70, 3) := by decide +kernel
theorem d_M_event_105 : decode b_M_event 105 = .ok (.aload_n 0, 1) := by decide +kernel
theorem d_M_event_106 : decode b_M_event 106 = .ok (.getfield 202, 3) := by decide +kernel
theorem d_M_event_109 : decode b_M_event 109 = .ok (.iconst 2, 1) := by decide +kernel
theorem d_M_event_110 : decode b_M_event 110 = .ok (.if_icmp .ne 40, 3) := by decide +kernel
theorem d_M_event_113 : decode b_M_event 113 = .ok (.aload_n 0, 1) := by decide +kernel
theorem d_M_event_114 : decode b_M_event 114 = .ok (.getfield 25, 3) := by decide +kernel
theorem d_M_event_117 : decode b_M_event 117 = .ok (.iconst 0, 1) := by decide +kernel
theorem d_M_event_118 : decode b_M_event 118 = .ok (.aload_n 0, 1) := by decide +kernel
theorem d_M_event_119 : decode b_M_event 119 = .ok (.getfield 205, 3) := by decide +kernel
theorem d_M_event_122 : decode b_M_event 122 = .ok (.iadd, 1) := by decide +kernel
theorem d_M_event_123 : decode b_M_event 123 = .ok (.aload_n 0, 1) := by decide +kernel
theorem d_M_event_124 : decode b_M_event 124 = .ok (.getfield 25, 3) := by decide +kernel
theorem d_M_event_127 : decode b_M_event 127 = .ok (.iconst 0, 1) := by decide +kernel
theorem d_M_event_128 : decode b_M_event 128 = .ok (.aload_n 0, 1) := by decide +kernel
theorem d_M_event_129 : decode b_M_event 129 = .ok (.getfield 205, 3) := by decide +kernel
theorem d_M_event_132 : decode b_M_event 132 = .ok (.iadd, 1) := by decide +kernel
theorem d_M_event_133 : decode b_M_event 133 = .ok (.iaload, 1) := by decide +kernel
theorem d_M_event_134 : decode b_M_event 134 = .ok (.aload_n 0, 1) := by decide +kernel
theorem d_M_event_135 : decode b_M_event 135 = .ok (.getfield 217, 3) := by decide +kernel
theorem d_M_event_138 : decode b_M_event 138 = .ok (.iadd, 1) := by decide +kernel
theorem d_M_event_139 : decode b_M_event 139 = .ok (.bipush (-99), 2) := by decide +kernel
theorem d_M_event_141 : decode b_M_event 141 = .ok (.bipush 99, 2) := by decide +kernel
theorem d_M_event_143 : decode b_M_event 143 = .ok (.invokestatic 186, 3) := by decide +kernel
theorem d_M_event_146 : decode b_M_event 146 = .ok (.iastore, 1) := by decide +kernel
theorem d_M_event_147 : decode b_M_event 147 = .ok (.goto 25, 3) := by decide +kernel
theorem d_M_event_150 : decode b_M_event 150 = .ok (.iconst 0, 1) := by decide +kernel
theorem d_M_event_151 : decode b_M_event 151 = .ok (.istore 4, 2) := by decide +kernel
theorem d_M_event_153 : decode b_M_event 153 = .ok (.iload 4, 2) := by decide +kernel
theorem d_M_event_155 : decode b_M_event 155 = .ok (.aload_n 0, 1) := by decide +kernel
theorem d_M_event_156 : decode b_M_event 156 = .ok (.getfield 217, 3) := by decide +kernel
theorem d_M_event_159 : decode b_M_event 159 = .ok (.if_icmp .ge 13, 3) := by decide +kernel
theorem d_M_event_162 : decode b_M_event 162 = .ok (.aload_n 0, 1) := by decide +kernel
theorem d_M_event_163 : decode b_M_event 163 = .ok (.invokevirtual 241, 3) := by decide +kernel
theorem d_M_event_166 : decode b_M_event 166 = .ok (.iinc 4 1, 3) := by decide +kernel
theorem d_M_event_169 : decode b_M_event 169 = .ok (.goto (-16), 3) := by decide +kernel
theorem d_M_event_172 : decode b_M_event 172 = .ok (.aload_n 0, 1) := by decide +kernel
theorem d_M_event_173 : decode b_M_event 173 = .ok (.getfield 217, 3) := by decide +kernel
theorem d_M_event_176 : decode b_M_event 176 = .ok (.ifCond .le 7, 3) := by decide +kernel
theorem d_M_event_179 : decode b_M_event 179 = .ok (.aload_n 0, 1) := by decide +kernel
theorem d_M_event_180 : decode b_M_event 180 = .ok (.invokevirtual 244, 3) := by decide +kernel
theorem d_M_event_183 : decode b_M_event 183 = .ok (.return_, 1) := by decide +kernel
theorem d_M_used_0 : decode b_M_used 0 = .ok (.iload_n 1, 1) := by decide +kernel
theorem d_M_used_1 : decode b_M_used 1 = .ok (.iconst 0, 1) := by decide +kernel
theorem d_M_used_2 : decode b_M_used 2 = .ok (.sipush 2199, 3) := by decide +kernel
theorem d_M_used_5 : decode b_M_used 5 = .ok (.invokestatic 73, 3) := by decide +kernel
theorem d_M_used_8 : decode b_M_used 8 = .ok (.ifCond .eq 20, 3) := by decide +kernel
theorem d_M_used_11 : decode b_M_used 11 = .ok (.iload_n 1, 1) := by decide +kernel
theorem d_M_used_12 : decode b_M_used 12 = .ok (.bipush 100, 2) := by decide +kernel
theorem d_M_used_14 : decode b_M_used 14 = .ok (.idiv, 1) := by decide +kernel
theorem d_M_used_15 : decode b_M_used 15 = .ok (.bipush 10, 2) := by decide +kernel
theorem d_M_used_17 : decode b_M_used 17 = .ok (.irem, 1) := by decide +kernel
theorem d_M_used_18 : decode b_M_used 18 = .ok (.iconst 1, 1) := by decide +kernel
theorem d_M_used_19 : decode b_M_used 19 = .ok (.if_icmp .gt 9, 3) := by decide +kernel
theorem d_M_used_22 : decode b_M_used 22 = .ok (.iload_n 2, 1) := by decide +kernel
theorem d_M_used_23 : decode b_M_used 23 = .ok (.bipush (-2), 2) := by decide +kernel
theorem d_M_used_25 : decode b_M_used 25 = .ok (.if_icmp .ge 5, 3) := by decide +kernel
theorem d_M_used_28 : decode b_M_used 28 = .ok (.iconst (-1), 1) := by decide +kernel
theorem d_M_used_29 : decode b_M_used 29 = .ok (.ireturn, 1) := by decide +kernel
theorem d_M_used_30 : decode b_M_used 30 = .ok (.aload_n 0, 1) := by decide +kernel
theorem d_M_used_31 : decode b_M_used 31 = .ok (.iload_n 1, 1) := by decide +kernel
theorem d_M_used_32 : decode b_M_used 32 = .ok (.sipush 1000, 3) := by decide +kernel
theorem d_M_used_35 : decode b_M_used 35 = .ok (.idiv, 1) := by decide +kernel
theorem d_M_used_36 : decode b_M_used 36 = .ok (.iload_n 1, 1) := by decide +kernel
theorem d_M_used_37 : decode b_M_used 37 = .ok (.bipush 100, 2) := by decide +kernel
theorem d_M_used_39 : decode b_M_used 39 = .ok (.idiv, 1) := by decide +kernel
theorem d_M_used_40 : decode b_M_used 40 = .ok (.bipush 10, 2) := by decide +kernel
theorem d_M_used_42 : decode b_M_used 42 = .ok (.irem, 1) := by decide +kernel
theorem d_M_used_43 : decode b_M_used 43 = .ok (.iload_n 1, 1) := by decide +kernel
theorem d_M_used_44 : decode b_M_used 44 = .ok (.bipush 100, 2) := by decide +kernel
theorem d_M_used_46 : decode b_M_used 46 = .ok (.irem, 1) := by decide +kernel
theorem d_M_used_47 : decode b_M_used 47 = .ok (.invokevirtual 230, 3) := by decide +kernel
theorem d_M_used_50 : decode b_M_used 50 = .ok (.iload_n 2, 1) := by decide +kernel
theorem d_M_used_51 : decode b_M_used 51 = .ok (.iconst (-1), 1) := by decide +kernel
theorem d_M_used_52 : decode b_M_used 52 = .ok (.if_icmp .ne 25, 3) := by decide +kernel
theorem d_M_used_55 : decode b_M_used 55 = .ok (.sipush 1000, 3) := by decide +kernel
theorem d_M_used_58 : decode b_M_used 58 = .ok (.aload_n 0, 1) := by decide +kernel
theorem d_M_used_59 : decode b_M_used 59 = .ok (.getfield 202, 3) := by decide +kernel
theorem d_M_used_62 : decode b_M_used 62 = .ok (.imul, 1) := by decide +kernel
theorem d_M_used_63 : decode b_M_used 63 = .ok (.bipush 100, 2) := by decide +kernel
theorem d_M_used_65 : decode b_M_used 65 = .ok (.aload_n 0, 1) := by decide +kernel
theorem d_M_used_66 : decode b_M_used 66 = .ok (.getfield 205, 3) := by decide +kernel
theorem d_M_used_69 : decode b_M_used 69 = .ok (.imul, 1) := by decide +kernel
theorem d_M_used_70 : decode b_M_used 70 = .ok (.iadd, 1) := by decide +kernel
theorem d_M_used_71 : decode b_M_used 71 = .ok (.aload_n 0, 1) := by decide +kernel
theorem d_M_used_72 : decode b_M_used 72 = .ok (.getfield 217, 3) := by decide +kernel
theorem d_M_used_75 : decode b_M_used 75 = .ok (.iadd, 1) := by decide +kernel
theorem d_M_used_76 : decode b_M_used 76 = .ok (.ireturn, 1) := by decide +kernel
theorem d_M_used_77 : decode b_M_used 77 = .ok (.iload_n 2, 1) := by decide +kernel
theorem d_M_used_78 : decode b_M_used 78 = .ok (.bipush (-2), 2) := by decide +kernel
theorem d_M_used_80 : decode b_M_used 80 = .ok (.if_icmp .ne 10, 3) := by decide +kernel
theorem d_M_used_83 : decode b_M_used 83 = .ok (.aload_n 0, 1) := by decide +kernel
theorem d_M_used_84 : decode b_M_used 84 = .ok (.getfield 208, 3) := by decide +kernel
theorem d_M_used_87 : decode b_M_used 87 = .ok (.goto 22, 3) := by decide +kernel
theorem d_M_used_90 : decode b_M_used 90 = .ok (.iload_n 2, 1) := by decide +kernel
theorem d_M_used_91 : decode b_M_used 91 = .ok (.aload_n 0, 1) := by decide +kernel
theorem d_M_used_92 : decode b_M_used 92 = .ok (.getfield 208, 3) := by decide +kernel
theorem d_M_used_95 : decode b_M_used 95 = .ok (.if_icmp .ge 12, 3) := by decide +kernel
theorem d_M_used_98 : decode b_M_used 98 = .ok (.aload_n 0, 1) := by decide +kernel
theorem d_M_used_99 : decode b_M_used 99 = .ok (.getfield 49, 3) := by decide +kernel
theorem d_M_used_102 : decode b_M_used 102 = .ok (.iload_n 2, 1) := by decide +kernel
theorem d_M_used_103 : decode b_M_used 103 = .ok (.iaload, 1) := by decide +kernel
theorem d_M_used_104 : decode b_M_used 104 = .ok (.goto 5, 3) := by decide +kernel
theorem d_M_used_107 : decode b_M_used 107 = .ok (.bipush (-2), 2) := by decide +kernel
theorem d_M_used_109 : decode b_M_used 109 = .ok (.ireturn, 1) := by decide +kernel
theorem d_M_play_0 : decode b_M_play 0 = .ok (.aload_n 0, 1) := by decide +kernel
theorem d_M_play_1 : decode b_M_play 1 = .ok (.iload_n 1, 1) := by decide +kernel
theorem d_M_play_2 : decode b_M_play 2 = .ok (.invokevirtual 160, 3) := by decide +kernel
theorem d_M_play_5 : decode b_M_play 5 = .ok (.ifCond .ne 5, 3) := by decide +kernel
theorem d_M_play_8 : decode b_M_play 8 = .ok (.iconst (-1), 1) := by decide +kernel
theorem d_M_play_9 : decode b_M_play 9 = .ok (.ireturn, 1) := by decide +kernel
theorem d_M_play_10 : decode b_M_play 10 = .ok (.aload_n 0, 1) := by decide +kernel
theorem d_M_play_11 : decode b_M_play 11 = .ok (.iload_n 1, 1) := by decide +kernel
theorem d_M_play_12 : decode b_M_play 12 = .ok (.iconst 1, 1) := by decide +kernel
theorem d_M_play_13 : decode b_M_play 13 = .ok (.invokevirtual 164, 3) := by decide +kernel
theorem d_M_play_16 : decode b_M_play 16 = .ok (.ifCond .ne 6, 3) := by decide +kernel
theorem d_M_play_19 : decode b_M_play 19 = .ok (.bipush (-5), 2) := by decide +kernel
theorem d_M_play_21 : decode b_M_play 21 = .ok (.ireturn, 1) := by decide +kernel
theorem d_M_play_22 : decode b_M_play 22 = .ok (.aload_n 0, 1) := by decide +kernel
theorem d_M_play_23 : decode b_M_play 23 = .ok (.getfield 25, 3) := by decide +kernel
theorem d_M_play_26 : decode b_M_play 26 = .ok (.bipush 6, 2) := by decide +kernel
theorem d_M_play_28 : decode b_M_play 28 = .ok (.iaload, 1) := by decide +kernel
theorem d_M_play_29 : decode b_M_play 29 = .ok (.bipush 64, 2) := by decide +kernel
theorem d_M_play_31 : decode b_M_play 31 = .ok (.if_icmp .ne 6, 3) := by decide +kernel
theorem d_M_play_34 : decode b_M_play 34 = .ok (.bipush (-3), 2) := by decide +kernel
theorem d_M_play_36 : decode b_M_play 36 = .ok (.ireturn, 1) := by decide +kernel
theorem d_M_play_37 : decode b_M_play 37 = .ok (.aload_n 0, 1) := by decide +kernel
theorem d_M_play_38 : decode b_M_play 38 = .ok (.iload_n 1, 1) := by decide +kernel
theorem d_M_play_39 : decode b_M_play 39 = .ok (.invokevirtual 247, 3) := by decide +kernel
theorem d_M_play_42 : decode b_M_play 42 = .ok (.aload_n 0, 1) := by decide +kernel
theorem d_M_play_43 : decode b_M_play 43 = .ok (.getfield 25, 3) := by decide +kernel
theorem d_M_play_46 : decode b_M_play 46 = .ok (.bipush 6, 2) := by decide +kernel
theorem d_M_play_48 : decode b_M_play 48 = .ok (.iaload, 1) := by decide +kernel
theorem d_M_play_49 : decode b_M_play 49 = .ok (.ireturn, 1) := by decide +kernel
theorem d_M_playIt_0 : decode b_M_playIt 0 = .ok (.aload_n 0, 1) := by decide +kernel
theorem d_M_playIt_1 : decode b_M_playIt 1 = .ok (.getfield 25, 3) := by decide +kernel
theorem d_M_playIt_4 : decode b_M_playIt 4 = .ok (.bipush 71, 2) := by decide +kernel
theorem d_M_playIt_6 : decode b_M_playIt 6 = .ok (.iload_n 1, 1) := by decide +kernel
theorem d_M_playIt_7 : decode b_M_playIt 7 = .ok (.iadd, 1) := by decide +kernel
theorem d_M_playIt_8 : decode b_M_playIt 8 = .ok (.iconst 2, 1) := by decide +kernel
theorem d_M_playIt_9 : decode b_M_playIt 9 = .ok (.iastore, 1) := by decide +kernel
theorem d_M_playIt_10 : decode b_M_playIt 10 = .ok (.aload_n 0, 1) := by decide +kernel
theorem d_M_playIt_11 : decode b_M_playIt 11 = .ok (.iload_n 1, 1) := by decide +kernel
theorem d_M_playIt_12 : decode b_M_playIt 12 = .ok (.invokevirtual 227, 3) := by decide +kernel
theorem d_M_playIt_15 : decode b_M_playIt 15 = .ok (.return_, 1) := by decide +kernel
theorem d_M_pile_0 : decode b_M_pile 0 = .ok (.iload_n 1, 1) := by decide +kernel
theorem d_M_pile_1 : decode b_M_pile 1 = .ok (.ifCond .ge 5, 3) := by decide +kernel
theorem d_M_pile_4 : decode b_M_pile 4 = .ok (.iconst (-1), 1) := by decide +kernel
theorem d_M_pile_5 : decode b_M_pile 5 = .ok (.ireturn, 1) := by decide +kernel
theorem d_M_pile_6 : decode b_M_pile 6 = .ok (.iload_n 1, 1) := by decide +kernel
theorem d_M_pile_7 : decode b_M_pile 7 = .ok (.aload_n 0, 1) := by decide +kernel
theorem d_M_pile_8 : decode b_M_pile 8 = .ok (.getfield 25, 3) := by decide +kernel
theorem d_M_pile_11 : decode b_M_pile 11 = .ok (.bipush 6, 2) := by decide +kernel
theorem d_M_pile_13 : decode b_M_pile 13 = .ok (.iaload, 1) := by decide +kernel
theorem d_M_pile_14 : decode b_M_pile 14 = .ok (.if_icmp .ge 25, 3) := by decide +kernel
theorem d_M_pile_17 : decode b_M_pile 17 = .ok (.aload_n 0, 1) := by decide +kernel
theorem d_M_pile_18 : decode b_M_pile 18 = .ok (.getfield 25, 3) := by decide +kernel
theorem d_M_pile_21 : decode b_M_pile 21 = .ok (.bipush 7, 2) := by decide +kernel
theorem d_M_pile_23 : decode b_M_pile 23 = .ok (.aload_n 0, 1) := by decide +kernel
theorem d_M_pile_24 : decode b_M_pile 24 = .ok (.getfield 25, 3) := by decide +kernel
theorem d_M_pile_27 : decode b_M_pile 27 = .ok (.bipush 6, 2) := by decide +kernel
theorem d_M_pile_29 : decode b_M_pile 29 = .ok (.iaload, 1) := by decide +kernel
theorem d_M_pile_30 : decode b_M_pile 30 = .ok (.iadd, 1) := by decide +kernel
theorem d_M_pile_31 : decode b_M_pile 31 = .ok (.iconst 1, 1) := by decide +kernel
theorem d_M_pile_32 : decode b_M_pile 32 = .ok (.isub, 1) := by decide +kernel
theorem d_M_pile_33 : decode b_M_pile 33 = .ok (.iload_n 1, 1) := by decide +kernel
theorem d_M_pile_34 : decode b_M_pile 34 = .ok (.isub, 1) := by decide +kernel
theorem d_M_pile_35 : decode b_M_pile 35 = .ok (.iaload, 1) := by decide +kernel
theorem d_M_pile_36 : decode b_M_pile 36 = .ok (.goto 5, 3) := by decide +kernel
theorem d_M_pile_39 : decode b_M_pile 39 = .ok (.bipush (-2), 2) := by decide +kernel
theorem d_M_pile_41 : decode b_M_pile 41 = .ok (.ireturn, 1) := by decide +kernel
theorem d_M_stop_0 : decode b_M_stop 0 = .ok (.aload_n 0, 1) := by decide +kernel
theorem d_M_stop_1 : decode b_M_stop 1 = .ok (.getfield 25, 3) := by decide +kernel
theorem d_M_stop_4 : decode b_M_stop 4 = .ok (.bipush 6, 2) := by decide +kernel
theorem d_M_stop_6 : decode b_M_stop 6 = .ok (.iaload, 1) := by decide +kernel
theorem d_M_stop_7 : decode b_M_stop 7 = .ok (.ifCond .le 47, 3) := by decide +kernel
theorem d_M_stop_10 : decode b_M_stop 10 = .ok (.aload_n 0, 1) := by decide +kernel
theorem d_M_stop_11 : decode b_M_stop 11 = .ok (.getfield 25, 3) := by decide +kernel
theorem d_M_stop_14 : decode b_M_stop 14 = .ok (.bipush 6, 2) := by decide +kernel
theorem d_M_stop_16 : decode b_M_stop 16 = .ok (.dup2, 1) := by decide +kernel
theorem d_M_stop_17 : decode b_M_stop 17 = .ok (.iaload, 1) := by decide +kernel
theorem d_M_stop_18 : decode b_M_stop 18 = .ok (.iconst 1, 1) := by decide +kernel
theorem d_M_stop_19 : decode b_M_stop 19 = .ok (.isub, 1) := by decide +kernel
theorem d_M_stop_20 : decode b_M_stop 20 = .ok (.iastore, 1) := by decide +kernel
theorem d_M_stop_21 : decode b_M_stop 21 = .ok (.aload_n 0, 1) := by decide +kernel
theorem d_M_stop_22 : decode b_M_stop 22 = .ok (.getfield 25, 3) := by decide +kernel
theorem d_M_stop_25 : decode b_M_stop 25 = .ok (.bipush 7, 2) := by decide +kernel
theorem d_M_stop_27 : decode b_M_stop 27 = .ok (.aload_n 0, 1) := by decide +kernel
theorem d_M_stop_28 : decode b_M_stop 28 = .ok (.getfield 25, 3) := by decide +kernel
theorem d_M_stop_31 : decode b_M_stop 31 = .ok (.bipush 6, 2) := by decide +kernel
theorem d_M_stop_33 : decode b_M_stop 33 = .ok (.iaload, 1) := by decide +kernel
theorem d_M_stop_34 : decode b_M_stop 34 = .ok (.iadd, 1) := by decide +kernel
theorem d_M_stop_35 : decode b_M_stop 35 = .ok (.iaload, 1) := by decide +kernel
theorem d_M_stop_36 : decode b_M_stop 36 = .ok (.istore_n 1, 1) := by decide +kernel
theorem d_M_stop_37 : decode b_M_stop 37 = .ok (.iload_n 1, 1) := by decide +kernel
theorem d_M_stop_38 : decode b_M_stop 38 = .ok (.sipush 10000, 3) := by decide +kernel
theorem d_M_stop_41 : decode b_M_stop 41 = .ok (.if_icmp .ge 13, 3) := by decide +kernel
theorem d_M_stop_44 : decode b_M_stop 44 = .ok (.aload_n 0, 1) := by decide +kernel
theorem d_M_stop_45 : decode b_M_stop 45 = .ok (.getfield 25, 3) := by decide +kernel
theorem d_M_stop_48 : decode b_M_stop 48 = .ok (.bipush 71, 2) := by decide +kernel
theorem d_M_stop_50 : decode b_M_stop 50 = .ok (.iload_n 1, 1) := by decide +kernel
theorem d_M_stop_51 : decode b_M_stop 51 = .ok (.iadd, 1) := by decide +kernel
theorem d_M_stop_52 : decode b_M_stop 52 = .ok (.iconst 4, 1) := by decide +kernel
theorem d_M_stop_53 : decode b_M_stop 53 = .ok (.iastore, 1) := by decide +kernel
theorem d_M_stop_54 : decode b_M_stop 54 = .ok (.return_, 1) := by decide +kernel
theorem d_M_clear_0 : decode b_M_clear 0 = .ok (.iconst (-1), 1) := by decide +kernel
theorem d_M_clear_1 : decode b_M_clear 1 = .ok (.istore_n 2, 1) := by decide +kernel
theorem d_M_clear_2 : decode b_M_clear 2 = .ok (.iconst 0, 1) := by decide +kernel
theorem d_M_clear_3 : decode b_M_clear 3 = .ok (.istore_n 3, 1) := by decide +kernel
theorem d_M_clear_4 : decode b_M_clear 4 = .ok (.iload_n 3, 1) := by decide +kernel
theorem d_M_clear_5 : decode b_M_clear 5 = .ok (.aload_n 0, 1) := by decide +kernel
theorem d_M_clear_6 : decode b_M_clear 6 = .ok (.getfield 70, 3) := by decide +kernel
theorem d_M_clear_9 : decode b_M_clear 9 = .ok (.if_icmp .ge 55, 3) := by decide +kernel
theorem d_M_clear_12 : decode b_M_clear 12 = .ok (.aload_n 0, 1) := by decide +kernel
theorem d_M_clear_13 : decode b_M_clear 13 = .ok (.iload_n 3, 1) := by decide +kernel
theorem d_M_clear_14 : decode b_M_clear 14 = .ok (.iconst 3, 1) := by decide +kernel
theorem d_M_clear_15 : decode b_M_clear 15 = .ok (.invokevirtual 164, 3) := by decide +kernel
theorem d_M_clear_18 : decode b_M_clear 18 = .ok (.ifCond .eq 40, 3) := by decide +kernel
theorem d_M_clear_21 : decode b_M_clear 21 = .ok (.aload_n 0, 1) := by decide +kernel
theorem d_M_clear_22 : decode b_M_clear 22 = .ok (.getfield 13, 3) := by decide +kernel
theorem d_M_clear_25 : decode b_M_clear 25 = .ok (.iload_n 3, 1) := by decide +kernel
theorem d_M_clear_26 : decode b_M_clear 26 = .ok (.iaload, 1) := by decide +kernel
theorem d_M_clear_27 : decode b_M_clear 27 = .ok (.iload_n 1, 1) := by decide +kernel
theorem d_M_clear_28 : decode b_M_clear 28 = .ok (.if_icmp .eq 30, 3) := by decide +kernel
theorem d_M_clear_31 : decode b_M_clear 31 = .ok (.iload_n 2, 1) := by decide +kernel
theorem d_M_clear_32 : decode b_M_clear 32 = .ok (.ifCond .lt 24, 3) := by decide +kernel
theorem d_M_clear_35 : decode b_M_clear 35 = .ok (.aload_n 0, 1) := by decide +kernel
theorem d_M_clear_36 : decode b_M_clear 36 = .ok (.getfield 25, 3) := by decide +kernel
theorem d_M_clear_39 : decode b_M_clear 39 = .ok (.bipush 95, 2) := by decide +kernel
theorem d_M_clear_41 : decode b_M_clear 41 = .ok (.iload_n 3, 1) := by decide +kernel
theorem d_M_clear_42 : decode b_M_clear 42 = .ok (.iadd, 1) := by decide +kernel
theorem d_M_clear_43 : decode b_M_clear 43 = .ok (.iaload, 1) := by decide +kernel
theorem d_M_clear_44 : decode b_M_clear 44 = .ok (.aload_n 0, 1) := by decide +kernel
theorem d_M_clear_45 : decode b_M_clear 45 = .ok (.getfield 25, 3) := by decide +kernel
theorem d_M_clear_48 : decode b_M_clear 48 = .ok (.bipush 95, 2) := by decide +kernel
theorem d_M_clear_50 : decode b_M_clear 50 = .ok (.iload_n 2, 1) := by decide +kernel
theorem d_M_clear_51 : decode b_M_clear 51 = .ok (.iadd, 1) := by decide +kernel
theorem d_M_clear_52 : decode b_M_clear 52 = .ok (.iaload, 1) := by decide +kernel
theorem d_M_clear_53 : decode b_M_clear 53 = .ok (.if_icmp .le 5, 3) := by decide +kernel
theorem d_M_clear_56 : decode b_M_clear 56 = .ok (.iload_n 3, 1) := by decide +kernel
theorem d_M_clear_57 : decode b_M_clear 57 = .ok (.istore_n 2, 1) := by decide +kernel
theorem d_M_clear_58 : decode b_M_clear 58 = .ok (.iinc 3 1, 3) := by decide +kernel
theorem d_M_clear_61 : decode b_M_clear 61 = .ok (.goto (-57), 3) := by decide +kernel
theorem d_M_clear_64 : decode b_M_clear 64 = .ok (.iload_n 2, 1) := by decide +kernel
theorem d_M_clear_65 : decode b_M_clear 65 = .ok (.ifCond .lt 13, 3) := by decide +kernel
theorem d_M_clear_68 : decode b_M_clear 68 = .ok (.aload_n 0, 1) := by decide +kernel
theorem d_M_clear_69 : decode b_M_clear 69 = .ok (.getfield 25, 3) := by decide +kernel
theorem d_M_clear_72 : decode b_M_clear 72 = .ok (.bipush 71, 2) := by decide +kernel
theorem d_M_clear_74 : decode b_M_clear 74 = .ok (.iload_n 2, 1) := by decide +kernel
theorem d_M_clear_75 : decode b_M_clear 75 = .ok (.iadd, 1) := by decide +kernel
theorem d_M_clear_76 : decode b_M_clear 76 = .ok (.iconst 4, 1) := by decide +kernel
theorem d_M_clear_77 : decode b_M_clear 77 = .ok (.iastore, 1) := by decide +kernel
theorem d_M_clear_78 : decode b_M_clear 78 = .ok (.return_, 1) := by decide +kernel
theorem d_M_answer_0 : decode b_M_answer 0 = .ok (.aload_n 0, 1) := by decide +kernel
theorem d_M_answer_1 : decode b_M_answer 1 = .ok (.getfield 25, 3) := by decide +kernel
theorem d_M_answer_4 : decode b_M_answer 4 = .ok (.bipush 71, 2) := by decide +kernel
theorem d_M_answer_6 : decode b_M_answer 6 = .ok (.iload_n 1, 1) := by decide +kernel
theorem d_M_answer_7 : decode b_M_answer 7 = .ok (.iadd, 1) := by decide +kernel
theorem d_M_answer_8 : decode b_M_answer 8 = .ok (.iconst 4, 1) := by decide +kernel
theorem d_M_answer_9 : decode b_M_answer 9 = .ok (.iastore, 1) := by decide +kernel
theorem d_M_answer_10 : decode b_M_answer 10 = .ok (.aload_n 0, 1) := by decide +kernel
theorem d_M_answer_11 : decode b_M_answer 11 = .ok (.getfield 13, 3) := by decide +kernel
theorem d_M_answer_14 : decode b_M_answer 14 = .ok (.iload_n 1, 1) := by decide +kernel
theorem d_M_answer_15 : decode b_M_answer 15 = .ok (.iaload, 1) := by decide +kernel
theorem d_M_answer_16 : decode b_M_answer 16 = .ok (.istore_n 2, 1) := by decide +kernel
theorem d_M_answer_17 : decode b_M_answer 17 = .ok (.aload_n 0, 1) := by decide +kernel
theorem d_M_answer_18 : decode b_M_answer 18 = .ok (.getfield 9, 3) := by decide +kernel
theorem d_M_answer_21 : decode b_M_answer 21 = .ok (.iload_n 1, 1) := by decide +kernel
theorem d_M_answer_22 : decode b_M_answer 22 = .ok (.iaload, 1) := by decide +kernel
theorem d_M_answer_23 : decode b_M_answer 23 = .ok (.bipush 9, 2) := by decide +kernel
theorem d_M_answer_25 : decode b_M_answer 25 = .ok (.if_icmp .ne 26, 3) := by decide +kernel
theorem d_M_answer_28 : decode b_M_answer 28 = .ok (.aload_n 0, 1) := by decide +kernel
theorem d_M_answer_29 : decode b_M_answer 29 = .ok (.iconst 1, 1) := by decide +kernel
theorem d_M_answer_30 : decode b_M_answer 30 = .ok (.iconst 1, 1) := by decide +kernel
theorem d_M_answer_31 : decode b_M_answer 31 = .ok (.iload_n 2, 1) := by decide +kernel
theorem d_M_answer_32 : decode b_M_answer 32 = .ok (.isub, 1) := by decide +kernel
theorem d_M_answer_33 : decode b_M_answer 33 = .ok (.aload_n 0, 1) := by decide +kernel
theorem d_M_answer_34 : decode b_M_answer 34 = .ok (.iconst 1, 1) := by decide +kernel
theorem d_M_answer_35 : decode b_M_answer 35 = .ok (.invokevirtual 199, 3) := by decide +kernel
theorem d_M_answer_38 : decode b_M_answer 38 = .ok (.aload_n 0, 1) := by decide +kernel
theorem d_M_answer_39 : decode b_M_answer 39 = .ok (.getfield 22, 3) := by decide +kernel
theorem d_M_answer_42 : decode b_M_answer 42 = .ok (.iload_n 1, 1) := by decide +kernel
theorem d_M_answer_43 : decode b_M_answer 43 = .ok (.iaload, 1) := by decide +kernel
theorem d_M_answer_44 : decode b_M_answer 44 = .ok (.iadd, 1) := by decide +kernel
theorem d_M_answer_45 : decode b_M_answer 45 = .ok (.invokevirtual 250, 3) := by decide +kernel
theorem d_M_answer_48 : decode b_M_answer 48 = .ok (.goto 90, 3) := by decide +kernel
theorem d_M_answer_51 : decode b_M_answer 51 = .ok (.aload_n 0, 1) := by decide +kernel
theorem d_M_answer_52 : decode b_M_answer 52 = .ok (.getfield 9, 3) := by decide +kernel
theorem d_M_answer_55 : decode b_M_answer 55 = .ok (.iload_n 1, 1) := by decide +kernel
theorem d_M_answer_56 : decode b_M_answer 56 = .ok (.iaload, 1) := by decide +kernel
theorem d_M_answer_57 : decode b_M_answer 57 = .ok (.bipush 10, 2) := by decide +kernel
theorem d_M_answer_59 : decode b_M_answer 59 = .ok (.if_icmp .ne 24, 3) := by decide +kernel
theorem d_M_answer_62 : decode b_M_answer 62 = .ok (.aload_n 0, 1) := by decide +kernel
theorem d_M_answer_63 : decode b_M_answer 63 = .ok (.iconst 2, 1) := by decide +kernel
theorem d_M_answer_64 : decode b_M_answer 64 = .ok (.iload_n 2, 1) := by decide +kernel
theorem d_M_answer_65 : decode b_M_answer 65 = .ok (.aload_n 0, 1) := by decide +kernel
theorem d_M_answer_66 : decode b_M_answer 66 = .ok (.iconst 2, 1) := by decide +kernel
theorem d_M_answer_67 : decode b_M_answer 67 = .ok (.invokevirtual 199, 3) := by decide +kernel
theorem d_M_answer_70 : decode b_M_answer 70 = .ok (.aload_n 0, 1) := by decide +kernel
theorem d_M_answer_71 : decode b_M_answer 71 = .ok (.getfield 22, 3) := by decide +kernel
theorem d_M_answer_74 : decode b_M_answer 74 = .ok (.iload_n 1, 1) := by decide +kernel
theorem d_M_answer_75 : decode b_M_answer 75 = .ok (.iaload, 1) := by decide +kernel
theorem d_M_answer_76 : decode b_M_answer 76 = .ok (.iadd, 1) := by decide +kernel
theorem d_M_answer_77 : decode b_M_answer 77 = .ok (.invokevirtual 250, 3) := by decide +kernel
theorem d_M_answer_80 : decode b_M_answer 80 = .ok (.goto 58, 3) := by decide +kernel
theorem d_M_answer_83 : decode b_M_answer 83 = .ok (.aload_n 0, 1) := by decide +kernel
theorem d_M_answer_84 : decode b_M_answer 84 = .ok (.getfield 9, 3) := by decide +kernel
theorem d_M_answer_87 : decode b_M_answer 87 = .ok (.iload_n 1, 1) := by decide +kernel
theorem d_M_answer_88 : decode b_M_answer 88 = .ok (.iaload, 1) := by decide +kernel
theorem d_M_answer_89 : decode b_M_answer 89 = .ok (.bipush 11, 2) := by decide +kernel
theorem d_M_answer_91 : decode b_M_answer 91 = .ok (.if_icmp .ne 24, 3) := by decide +kernel
theorem d_M_answer_94 : decode b_M_answer 94 = .ok (.aload_n 0, 1) := by decide +kernel
theorem d_M_answer_95 : decode b_M_answer 95 = .ok (.iconst 0, 1) := by decide +kernel
theorem d_M_answer_96 : decode b_M_answer 96 = .ok (.iload_n 2, 1) := by decide +kernel
theorem d_M_answer_97 : decode b_M_answer 97 = .ok (.aload_n 0, 1) := by decide +kernel
theorem d_M_answer_98 : decode b_M_answer 98 = .ok (.iconst 0, 1) := by decide +kernel
theorem d_M_answer_99 : decode b_M_answer 99 = .ok (.invokevirtual 199, 3) := by decide +kernel
theorem d_M_answer_102 : decode b_M_answer 102 = .ok (.aload_n 0, 1) := by decide +kernel
theorem d_M_answer_103 : decode b_M_answer 103 = .ok (.getfield 22, 3) := by decide +kernel
theorem d_M_answer_106 : decode b_M_answer 106 = .ok (.iload_n 1, 1) := by decide +kernel
theorem d_M_answer_107 : decode b_M_answer 107 = .ok (.iaload, 1) := by decide +kernel
theorem d_M_answer_108 : decode b_M_answer 108 = .ok (.iadd, 1) := by decide +kernel
theorem d_M_answer_109 : decode b_M_answer 109 = .ok (.invokevirtual 250, 3) := by decide +kernel
theorem d_M_answer_112 : decode b_M_answer 112 = .ok (.goto 26, 3) := by decide +kernel
theorem d_M_answer_115 : decode b_M_answer 115 = .ok (.aload_n 0, 1) := by decide +kernel
theorem d_M_answer_116 : decode b_M_answer 116 = .ok (.getfield 9, 3) := by decide +kernel
theorem d_M_answer_119 : decode b_M_answer 119 = .ok (.iload_n 1, 1) := by decide +kernel
theorem d_M_answer_120 : decode b_M_answer 120 = .ok (.iaload, 1) := by decide +kernel
theorem d_M_answer_121 : decode b_M_answer 121 = .ok (.bipush 12, 2) := by decide +kernel
theorem d_M_answer_123 : decode b_M_answer 123 = .ok (.if_icmp .ne 10, 3) := by decide +kernel
theorem d_M_answer_126 : decode b_M_answer 126 = .ok (.aload_n 0, 1) := by decide +kernel
theorem d_M_answer_127 : decode b_M_answer 127 = .ok (.invokevirtual 253, 3) := by decide +kernel
theorem d_M_answer_130 : decode b_M_answer 130 = .ok (.goto 8, 3) := by decide +kernel
theorem d_M_answer_133 : decode b_M_answer 133 = .ok (.aload_n 0, 1) := by decide +kernel
theorem d_M_answer_134 : decode b_M_answer 134 = .ok (.iload_n 2, 1) := by decide +kernel
theorem d_M_answer_135 : decode b_M_answer 135 = .ok (.invokevirtual 255, 3) := by decide +kernel
theorem d_M_answer_138 : decode b_M_answer 138 = .ok (.return_, 1) := by decide +kernel
theorem d_M_resolveTop_0 : decode b_M_resolveTop 0 = .ok (.aload_n 0, 1) := by decide +kernel
theorem d_M_resolveTop_1 : decode b_M_resolveTop 1 = .ok (.getfield 25, 3) := by decide +kernel
theorem d_M_resolveTop_4 : decode b_M_resolveTop 4 = .ok (.bipush 6, 2) := by decide +kernel
theorem d_M_resolveTop_6 : decode b_M_resolveTop 6 = .ok (.dup2, 1) := by decide +kernel
theorem d_M_resolveTop_7 : decode b_M_resolveTop 7 = .ok (.iaload, 1) := by decide +kernel
theorem d_M_resolveTop_8 : decode b_M_resolveTop 8 = .ok (.iconst 1, 1) := by decide +kernel
theorem d_M_resolveTop_9 : decode b_M_resolveTop 9 = .ok (.isub, 1) := by decide +kernel
theorem d_M_resolveTop_10 : decode b_M_resolveTop 10 = .ok (.iastore, 1) := by decide +kernel
theorem d_M_resolveTop_11 : decode b_M_resolveTop 11 = .ok (.aload_n 0, 1) := by decide +kernel
theorem d_M_resolveTop_12 : decode b_M_resolveTop 12 = .ok (.getfield 25, 3) := by decide +kernel
theorem d_M_resolveTop_15 : decode b_M_resolveTop 15 = .ok (.bipush 7, 2) := by decide +kernel
theorem d_M_resolveTop_17 : decode b_M_resolveTop 17 = .ok (.aload_n 0, 1) := by decide +kernel
theorem d_M_resolveTop_18 : decode b_M_resolveTop 18 = .ok (.getfield 25, 3) := by decide +kernel
theorem d_M_resolveTop_21 : decode b_M_resolveTop 21 = .ok (.bipush 6, 2) := by decide +kernel
theorem d_M_resolveTop_23 : decode b_M_resolveTop 23 = .ok (.iaload, 1) := by decide +kernel
theorem d_M_resolveTop_24 : decode b_M_resolveTop 24 = .ok (.iadd, 1) := by decide +kernel
theorem d_M_resolveTop_25 : decode b_M_resolveTop 25 = .ok (.iaload, 1) := by decide +kernel
theorem d_M_resolveTop_26 : decode b_M_resolveTop 26 = .ok (.istore_n 1, 1) := by decide +kernel
theorem d_M_resolveTop_27 : decode b_M_resolveTop 27 = .ok (.aload_n 0, 1) := by decide +kernel
theorem d_M_resolveTop_28 : decode b_M_resolveTop 28 = .ok (.getfield 234, 3) := by decide +kernel
theorem d_M_resolveTop_31 : decode b_M_resolveTop 31 = .ok (.ifCond .eq 29, 3) := by decide +kernel
theorem d_M_resolveTop_34 : decode b_M_resolveTop 34 = .ok (.aload_n 0, 1) := by decide +kernel
theorem d_M_resolveTop_35 : decode b_M_resolveTop 35 = .ok (.getfield 257, 3) := by decide +kernel
theorem d_M_resolveTop_38 : decode b_M_resolveTop 38 = .ok (.bipush 40, 2) := by decide +kernel
theorem d_M_resolveTop_40 : decode b_M_resolveTop 40 = .ok (.if_icmp .ge 20, 3) := by decide +kernel
theorem d_M_resolveTop_43 : decode b_M_resolveTop 43 = .ok (.aload_n 0, 1) := by decide +kernel
theorem d_M_resolveTop_44 : decode b_M_resolveTop 44 = .ok (.getfield 64, 3) := by decide +kernel
theorem d_M_resolveTop_47 : decode b_M_resolveTop 47 = .ok (.aload_n 0, 1) := by decide +kernel
theorem d_M_resolveTop_48 : decode b_M_resolveTop 48 = .ok (.dup, 1) := by decide +kernel
theorem d_M_resolveTop_49 : decode b_M_resolveTop 49 = .ok (.getfield 257, 3) := by decide +kernel
theorem d_M_resolveTop_52 : decode b_M_resolveTop 52 = .ok (.dup_x1, 1) := by decide +kernel
theorem d_M_resolveTop_53 : decode b_M_resolveTop 53 = .ok (.iconst 1, 1) := by decide +kernel
theorem d_M_resolveTop_54 : decode b_M_resolveTop 54 = .ok (.iadd, 1) := by decide +kernel
theorem d_M_resolveTop_55 : decode b_M_resolveTop 55 = .ok (.putfield 257, 3) := by decide +kernel
theorem d_M_resolveTop_58 : decode b_M_resolveTop 58 = .ok (.iload_n 1, 1) := by decide +kernel
theorem d_M_resolveTop_59 : decode b_M_resolveTop 59 = .ok (.iastore, 1) := by decide +kernel
theorem d_M_resolveTop_60 : decode b_M_resolveTop 60 = .ok (.iload_n 1, 1) := by decide +kernel
theorem d_M_resolveTop_61 : decode b_M_resolveTop 61 = .ok (.sipush 10000, 3) := by decide +kernel
theorem d_M_resolveTop_64 : decode b_M_resolveTop 64 = .ok (.if_icmp .lt 29, 3) := by decide +kernel
theorem d_M_resolveTop_67 : decode b_M_resolveTop 67 = .ok (.aload_n 0, 1) := by decide +kernel
theorem d_M_resolveTop_68 : decode b_M_resolveTop 68 = .ok (.iload_n 1, 1) := by decide +kernel
theorem d_M_resolveTop_69 : decode b_M_resolveTop 69 = .ok (.sipush 1000, 3) := by decide +kernel
theorem d_M_resolveTop_72 : decode b_M_resolveTop 72 = .ok (.idiv, 1) := by decide +kernel
theorem d_M_resolveTop_73 : decode b_M_resolveTop 73 = .ok (.bipush 10, 2) := by decide +kernel
theorem d_M_resolveTop_75 : decode b_M_resolveTop 75 = .ok (.irem, 1) := by decide +kernel
theorem d_M_resolveTop_76 : decode b_M_resolveTop 76 = .ok (.iload_n 1, 1) := by decide +kernel
theorem d_M_resolveTop_77 : decode b_M_resolveTop 77 = .ok (.bipush 100, 2) := by decide +kernel
theorem d_M_resolveTop_79 : decode b_M_resolveTop 79 = .ok (.idiv, 1) := by decide +kernel
theorem d_M_resolveTop_80 : decode b_M_resolveTop 80 = .ok (.bipush 10, 2) := by decide +kernel
theorem d_M_resolveTop_82 : decode b_M_resolveTop 82 = .ok (.irem, 1) := by decide +kernel
theorem d_M_resolveTop_83 : decode b_M_resolveTop 83 = .ok (.iload_n 1, 1) := by decide +kernel
theorem d_M_resolveTop_84 : decode b_M_resolveTop 84 = .ok (.bipush 100, 2) := by decide +kernel
theorem d_M_resolveTop_86 : decode b_M_resolveTop 86 = .ok (.irem, 1) := by decide +kernel
theorem d_M_resolveTop_87 : decode b_M_resolveTop 87 = .ok (.invokevirtual 250, 3) := by decide +kernel
theorem d_M_resolveTop_90 : decode b_M_resolveTop 90 = .ok (.goto 57, 3) := by decide +kernel
theorem d_M_resolveTop_93 : decode b_M_resolveTop 93 = .ok (.aload_n 0, 1) := by decide +kernel
theorem d_M_resolveTop_94 : decode b_M_resolveTop 94 = .ok (.getfield 9, 3) := by decide +kernel
theorem d_M_resolveTop_97 : decode b_M_resolveTop 97 = .ok (.iload_n 1, 1) := by decide +kernel
theorem d_M_resolveTop_98 : decode b_M_resolveTop 98 = .ok (.iaload, 1) := by decide +kernel
theorem d_M_resolveTop_99 : decode b_M_resolveTop 99 = .ok (.bipush 9, 2) := by decide +kernel
theorem d_M_resolveTop_101 : decode b_M_resolveTop 101 = .ok (.bipush 13, 2) := by decide +kernel
theorem d_M_resolveTop_103 : decode b_M_resolveTop 103 = .ok (.invokestatic 73, 3) := by decide +kernel
theorem d_M_resolveTop_106 : decode b_M_resolveTop 106 = .ok (.ifCond .eq 11, 3) := by decide +kernel
theorem d_M_resolveTop_109 : decode b_M_resolveTop 109 = .ok (.aload_n 0, 1) := by decide +kernel
theorem d_M_resolveTop_110 : decode b_M_resolveTop 110 = .ok (.iload_n 1, 1) := by decide +kernel
theorem d_M_resolveTop_111 : decode b_M_resolveTop 111 = .ok (.invokevirtual 260, 3) := by decide +kernel
theorem d_M_resolveTop_114 : decode b_M_resolveTop 114 = .ok (.goto 33, 3) := by decide +kernel
theorem d_M_resolveTop_117 : decode b_M_resolveTop 117 = .ok (.aload_n 0, 1) := by decide +kernel
theorem d_M_resolveTop_118 : decode b_M_resolveTop 118 = .ok (.getfield 25, 3) := by decide +kernel
theorem d_M_resolveTop_121 : decode b_M_resolveTop 121 = .ok (.bipush 71, 2) := by decide +kernel
theorem d_M_resolveTop_123 : decode b_M_resolveTop 123 = .ok (.iload_n 1, 1) := by decide +kernel
theorem d_M_resolveTop_124 : decode b_M_resolveTop 124 = .ok (.iadd, 1) := by decide +kernel
theorem d_M_resolveTop_125 : decode b_M_resolveTop 125 = .ok (.iconst 3, 1) := by decide +kernel
theorem d_M_resolveTop_126 : decode b_M_resolveTop 126 = .ok (.iastore, 1) := by decide +kernel
theorem d_M_resolveTop_127 : decode b_M_resolveTop 127 = .ok (.aload_n 0, 1) := by decide +kernel
theorem d_M_resolveTop_128 : decode b_M_resolveTop 128 = .ok (.getfield 25, 3) := by decide +kernel
theorem d_M_resolveTop_131 : decode b_M_resolveTop 131 = .ok (.bipush 95, 2) := by decide +kernel
theorem d_M_resolveTop_133 : decode b_M_resolveTop 133 = .ok (.iload_n 1, 1) := by decide +kernel
theorem d_M_resolveTop_134 : decode b_M_resolveTop 134 = .ok (.iadd, 1) := by decide +kernel
theorem d_M_resolveTop_135 : decode b_M_resolveTop 135 = .ok (.aload_n 0, 1) := by decide +kernel
theorem d_M_resolveTop_136 : decode b_M_resolveTop 136 = .ok (.getfield 25, 3) := by decide +kernel
theorem d_M_resolveTop_139 : decode b_M_resolveTop 139 = .ok (.iconst 2, 1) := by decide +kernel
theorem d_M_resolveTop_140 : decode b_M_resolveTop 140 = .ok (.dup2, 1) := by decide +kernel
theorem d_M_resolveTop_141 : decode b_M_resolveTop 141 = .ok (.iaload, 1) := by decide +kernel
theorem d_M_resolveTop_142 : decode b_M_resolveTop 142 = .ok (.dup_x2, 1) := by decide +kernel
theorem d_M_resolveTop_143 : decode b_M_resolveTop 143 = .ok (.iconst 1, 1) := by decide +kernel
theorem d_M_resolveTop_144 : decode b_M_resolveTop 144 = .ok (.iadd, 1) := by decide +kernel
theorem d_M_resolveTop_145 : decode b_M_resolveTop 145 = .ok (.iastore, 1) := by decide +kernel
theorem d_M_resolveTop_146 : decode b_M_resolveTop 146 = .ok (.iastore, 1) := by decide +kernel
theorem d_M_resolveTop_147 : decode b_M_resolveTop 147 = .ok (.return_, 1) := by decide +kernel
theorem d_M_traces_0 : decode b_M_traces 0 = .ok (.aload_n 0, 1) := by decide +kernel
theorem d_M_traces_1 : decode b_M_traces 1 = .ok (.iconst 1, 1) := by decide +kernel
theorem d_M_traces_2 : decode b_M_traces 2 = .ok (.putfield 234, 3) := by decide +kernel
theorem d_M_traces_5 : decode b_M_traces 5 = .ok (.aload_n 0, 1) := by decide +kernel
theorem d_M_traces_6 : decode b_M_traces 6 = .ok (.iconst 0, 1) := by decide +kernel
theorem d_M_traces_7 : decode b_M_traces 7 = .ok (.putfield 257, 3) := by decide +kernel
theorem d_M_traces_10 : decode b_M_traces 10 = .ok (.aload_n 0, 1) := by decide +kernel
theorem d_M_traces_11 : decode b_M_traces 11 = .ok (.iconst 0, 1) := by decide +kernel
theorem d_M_traces_12 : decode b_M_traces 12 = .ok (.putfield 238, 3) := by decide +kernel
theorem d_M_traces_15 : decode b_M_traces 15 = .ok (.return_, 1) := by decide +kernel
theorem d_M_resolve_0 : decode b_M_resolve 0 = .ok (.aload_n 0, 1) := by decide +kernel
theorem d_M_resolve_1 : decode b_M_resolve 1 = .ok (.getfield 25, 3) := by decide +kernel
theorem d_M_resolve_4 : decode b_M_resolve 4 = .ok (.bipush 6, 2) := by decide +kernel
theorem d_M_resolve_6 : decode b_M_resolve 6 = .ok (.iaload, 1) := by decide +kernel
theorem d_M_resolve_7 : decode b_M_resolve 7 = .ok (.ifCond .ne 6, 3) := by decide +kernel
theorem d_M_resolve_10 : decode b_M_resolve 10 = .ok (.bipush (-5), 2) := by decide +kernel
theorem d_M_resolve_12 : decode b_M_resolve 12 = .ok (.ireturn, 1) := by decide +kernel
theorem d_M_resolve_13 : decode b_M_resolve 13 = .ok (.aload_n 0, 1) := by decide +kernel
theorem d_M_resolve_14 : decode b_M_resolve 14 = .ok (.invokevirtual 263, 3) := by decide +kernel
theorem d_M_resolve_17 : decode b_M_resolve 17 = .ok (.aload_n 0, 1) := by decide +kernel
theorem d_M_resolve_18 : decode b_M_resolve 18 = .ok (.invokevirtual 266, 3) := by decide +kernel
theorem d_M_resolve_21 : decode b_M_resolve 21 = .ok (.aload_n 0, 1) := by decide +kernel
theorem d_M_resolve_22 : decode b_M_resolve 22 = .ok (.iconst 0, 1) := by decide +kernel
theorem d_M_resolve_23 : decode b_M_resolve 23 = .ok (.putfield 234, 3) := by decide +kernel
theorem d_M_resolve_26 : decode b_M_resolve 26 = .ok (.aload_n 0, 1) := by decide +kernel
theorem d_M_resolve_27 : decode b_M_resolve 27 = .ok (.getfield 25, 3) := by decide +kernel
theorem d_M_resolve_30 : decode b_M_resolve 30 = .ok (.bipush 6, 2) := by decide +kernel
theorem d_M_resolve_32 : decode b_M_resolve 32 = .ok (.iaload, 1) := by decide +kernel
theorem d_M_resolve_33 : decode b_M_resolve 33 = .ok (.ireturn, 1) := by decide +kernel
theorem d_M_isLost_0 : decode b_M_isLost 0 = .ok (.aload_n 0, 1) := by decide +kernel
theorem d_M_isLost_1 : decode b_M_isLost 1 = .ok (.getfield 25, 3) := by decide +kernel
theorem d_M_isLost_4 : decode b_M_isLost 4 = .ok (.iconst 0, 1) := by decide +kernel
theorem d_M_isLost_5 : decode b_M_isLost 5 = .ok (.iaload, 1) := by decide +kernel
theorem d_M_isLost_6 : decode b_M_isLost 6 = .ok (.ifCond .le 12, 3) := by decide +kernel
theorem d_M_isLost_9 : decode b_M_isLost 9 = .ok (.aload_n 0, 1) := by decide +kernel
theorem d_M_isLost_10 : decode b_M_isLost 10 = .ok (.getfield 25, 3) := by decide +kernel
theorem d_M_isLost_13 : decode b_M_isLost 13 = .ok (.iconst 1, 1) := by decide +kernel
theorem d_M_isLost_14 : decode b_M_isLost 14 = .ok (.iaload, 1) := by decide +kernel
theorem d_M_isLost_15 : decode b_M_isLost 15 = .ok (.ifCond .gt 7, 3) := by decide +kernel
theorem d_M_isLost_18 : decode b_M_isLost 18 = .ok (.iconst 1, 1) := by decide +kernel
theorem d_M_isLost_19 : decode b_M_isLost 19 = .ok (.goto 4, 3) := by decide +kernel
theorem d_M_isLost_22 : decode b_M_isLost 22 = .ok (.iconst 0, 1) := by decide +kernel
theorem d_M_isLost_23 : decode b_M_isLost 23 = .ok (.ireturn, 1) := by decide +kernel
theorem d_M_see_0 : decode b_M_see 0 = .ok (.aload_n 0, 1) := by decide +kernel
theorem d_M_see_1 : decode b_M_see 1 = .ok (.getfield 40, 3) := by decide +kernel
theorem d_M_see_4 : decode b_M_see 4 = .ok (.iload_n 1, 1) := by decide +kernel
theorem d_M_see_5 : decode b_M_see 5 = .ok (.aaload, 1) := by decide +kernel
theorem d_M_see_6 : decode b_M_see 6 = .ok (.astore_n 2, 1) := by decide +kernel
theorem d_M_see_7 : decode b_M_see 7 = .ok (.aload_n 2, 1) := by decide +kernel
theorem d_M_see_8 : decode b_M_see 8 = .ok (.iconst 0, 1) := by decide +kernel
theorem d_M_see_9 : decode b_M_see 9 = .ok (.aload_n 0, 1) := by decide +kernel
theorem d_M_see_10 : decode b_M_see 10 = .ok (.getfield 25, 3) := by decide +kernel
theorem d_M_see_13 : decode b_M_see 13 = .ok (.iconst 0, 1) := by decide +kernel
theorem d_M_see_14 : decode b_M_see 14 = .ok (.iaload, 1) := by decide +kernel
theorem d_M_see_15 : decode b_M_see 15 = .ok (.iastore, 1) := by decide +kernel
theorem d_M_see_16 : decode b_M_see 16 = .ok (.aload_n 2, 1) := by decide +kernel
theorem d_M_see_17 : decode b_M_see 17 = .ok (.iconst 1, 1) := by decide +kernel
theorem d_M_see_18 : decode b_M_see 18 = .ok (.aload_n 0, 1) := by decide +kernel
theorem d_M_see_19 : decode b_M_see 19 = .ok (.getfield 25, 3) := by decide +kernel
theorem d_M_see_22 : decode b_M_see 22 = .ok (.iconst 1, 1) := by decide +kernel
theorem d_M_see_23 : decode b_M_see 23 = .ok (.iaload, 1) := by decide +kernel
theorem d_M_see_24 : decode b_M_see 24 = .ok (.iastore, 1) := by decide +kernel
theorem d_M_see_25 : decode b_M_see 25 = .ok (.aload_n 2, 1) := by decide +kernel
theorem d_M_see_26 : decode b_M_see 26 = .ok (.iconst 2, 1) := by decide +kernel
theorem d_M_see_27 : decode b_M_see 27 = .ok (.aload_n 0, 1) := by decide +kernel
theorem d_M_see_28 : decode b_M_see 28 = .ok (.getfield 25, 3) := by decide +kernel
theorem d_M_see_31 : decode b_M_see 31 = .ok (.iconst 3, 1) := by decide +kernel
theorem d_M_see_32 : decode b_M_see 32 = .ok (.iaload, 1) := by decide +kernel
theorem d_M_see_33 : decode b_M_see 33 = .ok (.iastore, 1) := by decide +kernel
theorem d_M_see_34 : decode b_M_see 34 = .ok (.aload_n 2, 1) := by decide +kernel
theorem d_M_see_35 : decode b_M_see 35 = .ok (.iconst 3, 1) := by decide +kernel
theorem d_M_see_36 : decode b_M_see 36 = .ok (.aload_n 0, 1) := by decide +kernel
theorem d_M_see_37 : decode b_M_see 37 = .ok (.getfield 25, 3) := by decide +kernel
theorem d_M_see_40 : decode b_M_see 40 = .ok (.bipush 6, 2) := by decide +kernel
theorem d_M_see_42 : decode b_M_see 42 = .ok (.iaload, 1) := by decide +kernel
theorem d_M_see_43 : decode b_M_see 43 = .ok (.iastore, 1) := by decide +kernel
theorem d_M_see_44 : decode b_M_see 44 = .ok (.iconst 0, 1) := by decide +kernel
theorem d_M_see_45 : decode b_M_see 45 = .ok (.istore_n 3, 1) := by decide +kernel
theorem d_M_see_46 : decode b_M_see 46 = .ok (.iload_n 3, 1) := by decide +kernel
theorem d_M_see_47 : decode b_M_see 47 = .ok (.bipush 64, 2) := by decide +kernel
theorem d_M_see_49 : decode b_M_see 49 = .ok (.if_icmp .ge 38, 3) := by decide +kernel
theorem d_M_see_52 : decode b_M_see 52 = .ok (.aload_n 2, 1) := by decide +kernel
theorem d_M_see_53 : decode b_M_see 53 = .ok (.iconst 4, 1) := by decide +kernel
theorem d_M_see_54 : decode b_M_see 54 = .ok (.iload_n 3, 1) := by decide +kernel
theorem d_M_see_55 : decode b_M_see 55 = .ok (.iadd, 1) := by decide +kernel
theorem d_M_see_56 : decode b_M_see 56 = .ok (.iload_n 3, 1) := by decide +kernel
theorem d_M_see_57 : decode b_M_see 57 = .ok (.aload_n 0, 1) := by decide +kernel
theorem d_M_see_58 : decode b_M_see 58 = .ok (.getfield 25, 3) := by decide +kernel
theorem d_M_see_61 : decode b_M_see 61 = .ok (.bipush 6, 2) := by decide +kernel
theorem d_M_see_63 : decode b_M_see 63 = .ok (.iaload, 1) := by decide +kernel
theorem d_M_see_64 : decode b_M_see 64 = .ok (.if_icmp .ge 15, 3) := by decide +kernel
theorem d_M_see_67 : decode b_M_see 67 = .ok (.aload_n 0, 1) := by decide +kernel
theorem d_M_see_68 : decode b_M_see 68 = .ok (.getfield 25, 3) := by decide +kernel
theorem d_M_see_71 : decode b_M_see 71 = .ok (.bipush 7, 2) := by decide +kernel
theorem d_M_see_73 : decode b_M_see 73 = .ok (.iload_n 3, 1) := by decide +kernel
theorem d_M_see_74 : decode b_M_see 74 = .ok (.iadd, 1) := by decide +kernel
theorem d_M_see_75 : decode b_M_see 75 = .ok (.iaload, 1) := by decide +kernel
theorem d_M_see_76 : decode b_M_see 76 = .ok (.goto 4, 3) := by decide +kernel
theorem d_M_see_79 : decode b_M_see 79 = .ok (.iconst 0, 1) := by decide +kernel
theorem d_M_see_80 : decode b_M_see 80 = .ok (.iastore, 1) := by decide +kernel
theorem d_M_see_81 : decode b_M_see 81 = .ok (.iinc 3 1, 3) := by decide +kernel
theorem d_M_see_84 : decode b_M_see 84 = .ok (.goto (-38), 3) := by decide +kernel
theorem d_M_see_87 : decode b_M_see 87 = .ok (.iconst 0, 1) := by decide +kernel
theorem d_M_see_88 : decode b_M_see 88 = .ok (.istore_n 3, 1) := by decide +kernel
theorem d_M_see_89 : decode b_M_see 89 = .ok (.iload_n 3, 1) := by decide +kernel
theorem d_M_see_90 : decode b_M_see 90 = .ok (.bipush 24, 2) := by decide +kernel
theorem d_M_see_92 : decode b_M_see 92 = .ok (.if_icmp .ge 124, 3) := by decide +kernel
theorem d_M_see_95 : decode b_M_see 95 = .ok (.iconst 0, 1) := by decide +kernel
theorem d_M_see_96 : decode b_M_see 96 = .ok (.istore 4, 2) := by decide +kernel
theorem d_M_see_98 : decode b_M_see 98 = .ok (.iconst 0, 1) := by decide +kernel
theorem d_M_see_99 : decode b_M_see 99 = .ok (.istore 5, 2) := by decide +kernel
theorem d_M_see_101 : decode b_M_see 101 = .ok (.iload 5, 2) := by decide +kernel
theorem d_M_see_103 : decode b_M_see 103 = .ok (.aload_n 0, 1) := by decide +kernel
theorem d_M_see_104 : decode b_M_see 104 = .ok (.getfield 70, 3) := by decide +kernel
theorem d_M_see_107 : decode b_M_see 107 = .ok (.if_icmp .ge 68, 3) := by decide +kernel
theorem d_M_see_110 : decode b_M_see 110 = .ok (.iload_n 3, 1) := by decide +kernel
theorem d_M_see_111 : decode b_M_see 111 = .ok (.aload_n 0, 1) := by decide +kernel
theorem d_M_see_112 : decode b_M_see 112 = .ok (.getfield 70, 3) := by decide +kernel
theorem d_M_see_115 : decode b_M_see 115 = .ok (.if_icmp .ge 60, 3) := by decide +kernel
theorem d_M_see_118 : decode b_M_see 118 = .ok (.aload_n 0, 1) := by decide +kernel
theorem d_M_see_119 : decode b_M_see 119 = .ok (.iload_n 3, 1) := by decide +kernel
theorem d_M_see_120 : decode b_M_see 120 = .ok (.iconst 3, 1) := by decide +kernel
theorem d_M_see_121 : decode b_M_see 121 = .ok (.invokevirtual 164, 3) := by decide +kernel
theorem d_M_see_124 : decode b_M_see 124 = .ok (.ifCond .eq 51, 3) := by decide +kernel
theorem d_M_see_127 : decode b_M_see 127 = .ok (.iload 4, 2) := by decide +kernel
theorem d_M_see_129 : decode b_M_see 129 = .ok (.aload_n 0, 1) := by decide +kernel
theorem d_M_see_130 : decode b_M_see 130 = .ok (.iload 5, 2) := by decide +kernel
theorem d_M_see_132 : decode b_M_see 132 = .ok (.iconst 3, 1) := by decide +kernel
theorem d_M_see_133 : decode b_M_see 133 = .ok (.invokevirtual 164, 3) := by decide +kernel
theorem d_M_see_136 : decode b_M_see 136 = .ok (.ifCond .eq 29, 3) := by decide +kernel
theorem d_M_see_139 : decode b_M_see 139 = .ok (.aload_n 0, 1) := by decide +kernel
theorem d_M_see_140 : decode b_M_see 140 = .ok (.getfield 25, 3) := by decide +kernel
theorem d_M_see_143 : decode b_M_see 143 = .ok (.bipush 95, 2) := by decide +kernel
theorem d_M_see_145 : decode b_M_see 145 = .ok (.iload 5, 2) := by decide +kernel
theorem d_M_see_147 : decode b_M_see 147 = .ok (.iadd, 1) := by decide +kernel
theorem d_M_see_148 : decode b_M_see 148 = .ok (.iaload, 1) := by decide +kernel
theorem d_M_see_149 : decode b_M_see 149 = .ok (.aload_n 0, 1) := by decide +kernel
theorem d_M_see_150 : decode b_M_see 150 = .ok (.getfield 25, 3) := by decide +kernel
theorem d_M_see_153 : decode b_M_see 153 = .ok (.bipush 95, 2) := by decide +kernel
theorem d_M_see_155 : decode b_M_see 155 = .ok (.iload_n 3, 1) := by decide +kernel
theorem d_M_see_156 : decode b_M_see 156 = .ok (.iadd, 1) := by decide +kernel
theorem d_M_see_157 : decode b_M_see 157 = .ok (.iaload, 1) := by decide +kernel
theorem d_M_see_158 : decode b_M_see 158 = .ok (.if_icmp .ge 7, 3) := by decide +kernel
theorem d_M_see_161 : decode b_M_see 161 = .ok (.iconst 1, 1) := by decide +kernel
theorem d_M_see_162 : decode b_M_see 162 = .ok (.goto 4, 3) := by decide +kernel
theorem d_M_see_165 : decode b_M_see 165 = .ok (.iconst 0, 1) := by decide +kernel
theorem d_M_see_166 : decode b_M_see 166 = .ok (.iadd, 1) := by decide +kernel
theorem d_M_see_167 : decode b_M_see 167 = .ok (.istore 4, 2) := by decide +kernel
theorem d_M_see_169 : decode b_M_see 169 = .ok (.iinc 5 1, 3) := by decide +kernel
theorem d_M_see_172 : decode b_M_see 172 = .ok (.goto (-71), 3) := by decide +kernel
theorem d_M_see_175 : decode b_M_see 175 = .ok (.aload_n 2, 1) := by decide +kernel
theorem d_M_see_176 : decode b_M_see 176 = .ok (.bipush 68, 2) := by decide +kernel
theorem d_M_see_178 : decode b_M_see 178 = .ok (.iload_n 3, 1) := by decide +kernel
theorem d_M_see_179 : decode b_M_see 179 = .ok (.iadd, 1) := by decide +kernel
theorem d_M_see_180 : decode b_M_see 180 = .ok (.iload_n 3, 1) := by decide +kernel
theorem d_M_see_181 : decode b_M_see 181 = .ok (.aload_n 0, 1) := by decide +kernel
theorem d_M_see_182 : decode b_M_see 182 = .ok (.getfield 70, 3) := by decide +kernel
theorem d_M_see_185 : decode b_M_see 185 = .ok (.if_icmp .ge 15, 3) := by decide +kernel
theorem d_M_see_188 : decode b_M_see 188 = .ok (.aload_n 0, 1) := by decide +kernel
theorem d_M_see_189 : decode b_M_see 189 = .ok (.getfield 25, 3) := by decide +kernel
theorem d_M_see_192 : decode b_M_see 192 = .ok (.bipush 71, 2) := by decide +kernel
theorem d_M_see_194 : decode b_M_see 194 = .ok (.iload_n 3, 1) := by decide +kernel
theorem d_M_see_195 : decode b_M_see 195 = .ok (.iadd, 1) := by decide +kernel
theorem d_M_see_196 : decode b_M_see 196 = .ok (.iaload, 1) := by decide +kernel
theorem d_M_see_197 : decode b_M_see 197 = .ok (.goto 4, 3) := by decide +kernel
theorem d_M_see_200 : decode b_M_see 200 = .ok (.iconst 0, 1) := by decide +kernel
theorem d_M_see_201 : decode b_M_see 201 = .ok (.iastore, 1) := by decide +kernel
theorem d_M_see_202 : decode b_M_see 202 = .ok (.aload_n 2, 1) := by decide +kernel
theorem d_M_see_203 : decode b_M_see 203 = .ok (.bipush 92, 2) := by decide +kernel
theorem d_M_see_205 : decode b_M_see 205 = .ok (.iload_n 3, 1) := by decide +kernel
theorem d_M_see_206 : decode b_M_see 206 = .ok (.iadd, 1) := by decide +kernel
theorem d_M_see_207 : decode b_M_see 207 = .ok (.iload 4, 2) := by decide +kernel
theorem d_M_see_209 : decode b_M_see 209 = .ok (.iastore, 1) := by decide +kernel
theorem d_M_see_210 : decode b_M_see 210 = .ok (.iinc 3 1, 3) := by decide +kernel
theorem d_M_see_213 : decode b_M_see 213 = .ok (.goto (-124), 3) := by decide +kernel
theorem d_M_see_216 : decode b_M_see 216 = .ok (.return_, 1) := by decide +kernel
theorem d_M_sameAs_0 : decode b_M_sameAs 0 = .ok (.iconst 0, 1) := by decide +kernel
theorem d_M_sameAs_1 : decode b_M_sameAs 1 = .ok (.istore_n 2, 1) := by decide +kernel
theorem d_M_sameAs_2 : decode b_M_sameAs 2 = .ok (.iload_n 2, 1) := by decide +kernel
theorem d_M_sameAs_3 : decode b_M_sameAs 3 = .ok (.iload_n 1, 1) := by decide +kernel
theorem d_M_sameAs_4 : decode b_M_sameAs 4 = .ok (.if_icmp .ge 64, 3) := by decide +kernel
theorem d_M_sameAs_7 : decode b_M_sameAs 7 = .ok (.iconst 1, 1) := by decide +kernel
theorem d_M_sameAs_8 : decode b_M_sameAs 8 = .ok (.istore_n 3, 1) := by decide +kernel
theorem d_M_sameAs_9 : decode b_M_sameAs 9 = .ok (.iconst 0, 1) := by decide +kernel
theorem d_M_sameAs_10 : decode b_M_sameAs 10 = .ok (.istore 4, 2) := by decide +kernel
theorem d_M_sameAs_12 : decode b_M_sameAs 12 = .ok (.iload 4, 2) := by decide +kernel
theorem d_M_sameAs_14 : decode b_M_sameAs 14 = .ok (.bipush 116, 2) := by decide +kernel
theorem d_M_sameAs_16 : decode b_M_sameAs 16 = .ok (.if_icmp .ge 40, 3) := by decide +kernel
theorem d_M_sameAs_19 : decode b_M_sameAs 19 = .ok (.iload_n 3, 1) := by decide +kernel
theorem d_M_sameAs_20 : decode b_M_sameAs 20 = .ok (.ifCond .eq 36, 3) := by decide +kernel
theorem d_M_sameAs_23 : decode b_M_sameAs 23 = .ok (.aload_n 0, 1) := by decide +kernel
theorem d_M_sameAs_24 : decode b_M_sameAs 24 = .ok (.getfield 40, 3) := by decide +kernel
theorem d_M_sameAs_27 : decode b_M_sameAs 27 = .ok (.iload_n 2, 1) := by decide +kernel
theorem d_M_sameAs_28 : decode b_M_sameAs 28 = .ok (.aaload, 1) := by decide +kernel
theorem d_M_sameAs_29 : decode b_M_sameAs 29 = .ok (.iload 4, 2) := by decide +kernel
theorem d_M_sameAs_31 : decode b_M_sameAs 31 = .ok (.iaload, 1) := by decide +kernel
theorem d_M_sameAs_32 : decode b_M_sameAs 32 = .ok (.aload_n 0, 1) := by decide +kernel
theorem d_M_sameAs_33 : decode b_M_sameAs 33 = .ok (.getfield 40, 3) := by decide +kernel
theorem d_M_sameAs_36 : decode b_M_sameAs 36 = .ok (.iload_n 1, 1) := by decide +kernel
theorem d_M_sameAs_37 : decode b_M_sameAs 37 = .ok (.aaload, 1) := by decide +kernel
theorem d_M_sameAs_38 : decode b_M_sameAs 38 = .ok (.iload 4, 2) := by decide +kernel
theorem d_M_sameAs_40 : decode b_M_sameAs 40 = .ok (.iaload, 1) := by decide +kernel
theorem d_M_sameAs_41 : decode b_M_sameAs 41 = .ok (.if_icmp .ne 7, 3) := by decide +kernel
theorem d_M_sameAs_44 : decode b_M_sameAs 44 = .ok (.iconst 1, 1) := by decide +kernel
theorem d_M_sameAs_45 : decode b_M_sameAs 45 = .ok (.goto 4, 3) := by decide +kernel
theorem d_M_sameAs_48 : decode b_M_sameAs 48 = .ok (.iconst 0, 1) := by decide +kernel
theorem d_M_sameAs_49 : decode b_M_sameAs 49 = .ok (.istore_n 3, 1) := by decide +kernel
theorem d_M_sameAs_50 : decode b_M_sameAs 50 = .ok (.iinc 4 1, 3) := by decide +kernel
theorem d_M_sameAs_53 : decode b_M_sameAs 53 = .ok (.goto (-41), 3) := by decide +kernel
theorem d_M_sameAs_56 : decode b_M_sameAs 56 = .ok (.iload_n 3, 1) := by decide +kernel
theorem d_M_sameAs_57 : decode b_M_sameAs 57 = .ok (.ifCond .eq 5, 3) := by decide +kernel
theorem d_M_sameAs_60 : decode b_M_sameAs 60 = .ok (.iload_n 2, 1) := by decide +kernel
theorem d_M_sameAs_61 : decode b_M_sameAs 61 = .ok (.ireturn, 1) := by decide +kernel
theorem d_M_sameAs_62 : decode b_M_sameAs 62 = .ok (.iinc 2 1, 3) := by decide +kernel
theorem d_M_sameAs_65 : decode b_M_sameAs 65 = .ok (.goto (-63), 3) := by decide +kernel
theorem d_M_sameAs_68 : decode b_M_sameAs 68 = .ok (.iconst (-1), 1) := by decide +kernel
theorem d_M_sameAs_69 : decode b_M_sameAs 69 = .ok (.ireturn, 1) := by decide +kernel
theorem d_M_runIt_0 : decode b_M_runIt 0 = .ok (.iconst 0, 1) := by decide +kernel
theorem d_M_runIt_1 : decode b_M_runIt 1 = .ok (.istore_n 1, 1) := by decide +kernel
theorem d_M_runIt_2 : decode b_M_runIt 2 = .ok (.aload_n 0, 1) := by decide +kernel
theorem d_M_runIt_3 : decode b_M_runIt 3 = .ok (.bipush (-2), 2) := by decide +kernel
theorem d_M_runIt_5 : decode b_M_runIt 5 = .ok (.putfield 269, 3) := by decide +kernel
theorem d_M_runIt_8 : decode b_M_runIt 8 = .ok (.aload_n 0, 1) := by decide +kernel
theorem d_M_runIt_9 : decode b_M_runIt 9 = .ok (.bipush (-2), 2) := by decide +kernel
theorem d_M_runIt_11 : decode b_M_runIt 11 = .ok (.putfield 272, 3) := by decide +kernel
theorem d_M_runIt_14 : decode b_M_runIt 14 = .ok (.aload_n 0, 1) := by decide +kernel
theorem d_M_runIt_15 : decode b_M_runIt 15 = .ok (.invokevirtual 275, 3) := by decide +kernel
theorem d_M_runIt_18 : decode b_M_runIt 18 = .ok (.ifCond .eq 10, 3) := by decide +kernel
theorem d_M_runIt_21 : decode b_M_runIt 21 = .ok (.aload_n 0, 1) := by decide +kernel
theorem d_M_runIt_22 : decode b_M_runIt 22 = .ok (.iconst 1, 1) := by decide +kernel
theorem d_M_runIt_23 : decode b_M_runIt 23 = .ok (.putfield 279, 3) := by decide +kernel
theorem d_M_runIt_26 : decode b_M_runIt 26 = .ok (.iload_n 1, 1) := by decide +kernel
theorem d_M_runIt_27 : decode b_M_runIt 27 = .ok (.ireturn, 1) := by decide +kernel
theorem d_M_runIt_28 : decode b_M_runIt 28 = .ok (.aload_n 0, 1) := by decide +kernel
theorem d_M_runIt_29 : decode b_M_runIt 29 = .ok (.getfield 25, 3) := by decide +kernel
theorem d_M_runIt_32 : decode b_M_runIt 32 = .ok (.bipush 6, 2) := by decide +kernel
theorem d_M_runIt_34 : decode b_M_runIt 34 = .ok (.iaload, 1) := by decide +kernel
theorem d_M_runIt_35 : decode b_M_runIt 35 = .ok (.ifCond .ne 10, 3) := by decide +kernel
theorem d_M_runIt_38 : decode b_M_runIt 38 = .ok (.aload_n 0, 1) := by decide +kernel
theorem d_M_runIt_39 : decode b_M_runIt 39 = .ok (.iconst 0, 1) := by decide +kernel
theorem d_M_runIt_40 : decode b_M_runIt 40 = .ok (.putfield 279, 3) := by decide +kernel
theorem d_M_runIt_43 : decode b_M_runIt 43 = .ok (.iload_n 1, 1) := by decide +kernel
theorem d_M_runIt_44 : decode b_M_runIt 44 = .ok (.ireturn, 1) := by decide +kernel
theorem d_M_runIt_45 : decode b_M_runIt 45 = .ok (.aload_n 0, 1) := by decide +kernel
theorem d_M_runIt_46 : decode b_M_runIt 46 = .ok (.iload_n 1, 1) := by decide +kernel
theorem d_M_runIt_47 : decode b_M_runIt 47 = .ok (.invokevirtual 282, 3) := by decide +kernel
theorem d_M_runIt_50 : decode b_M_runIt 50 = .ok (.aload_n 0, 1) := by decide +kernel
theorem d_M_runIt_51 : decode b_M_runIt 51 = .ok (.iload_n 1, 1) := by decide +kernel
theorem d_M_runIt_52 : decode b_M_runIt 52 = .ok (.invokevirtual 285, 3) := by decide +kernel
theorem d_M_runIt_55 : decode b_M_runIt 55 = .ok (.istore_n 2, 1) := by decide +kernel
theorem d_M_runIt_56 : decode b_M_runIt 56 = .ok (.iload_n 2, 1) := by decide +kernel
theorem d_M_runIt_57 : decode b_M_runIt 57 = .ok (.ifCond .lt 22, 3) := by decide +kernel
theorem d_M_runIt_60 : decode b_M_runIt 60 = .ok (.aload_n 0, 1) := by decide +kernel
theorem d_M_runIt_61 : decode b_M_runIt 61 = .ok (.iconst 2, 1) := by decide +kernel
theorem d_M_runIt_62 : decode b_M_runIt 62 = .ok (.putfield 279, 3) := by decide +kernel
theorem d_M_runIt_65 : decode b_M_runIt 65 = .ok (.aload_n 0, 1) := by decide +kernel
theorem d_M_runIt_66 : decode b_M_runIt 66 = .ok (.iload_n 2, 1) := by decide +kernel
theorem d_M_runIt_67 : decode b_M_runIt 67 = .ok (.putfield 269, 3) := by decide +kernel
theorem d_M_runIt_70 : decode b_M_runIt 70 = .ok (.aload_n 0, 1) := by decide +kernel
theorem d_M_runIt_71 : decode b_M_runIt 71 = .ok (.iload_n 1, 1) := by decide +kernel
theorem d_M_runIt_72 : decode b_M_runIt 72 = .ok (.iload_n 2, 1) := by decide +kernel
theorem d_M_runIt_73 : decode b_M_runIt 73 = .ok (.isub, 1) := by decide +kernel
theorem d_M_runIt_74 : decode b_M_runIt 74 = .ok (.putfield 272, 3) := by decide +kernel
theorem d_M_runIt_77 : decode b_M_runIt 77 = .ok (.iload_n 1, 1) := by decide +kernel
theorem d_M_runIt_78 : decode b_M_runIt 78 = .ok (.ireturn, 1) := by decide +kernel
theorem d_M_runIt_79 : decode b_M_runIt 79 = .ok (.iload_n 1, 1) := by decide +kernel
theorem d_M_runIt_80 : decode b_M_runIt 80 = .ok (.sipush 200, 3) := by decide +kernel
theorem d_M_runIt_83 : decode b_M_runIt 83 = .ok (.if_icmp .ne 10, 3) := by decide +kernel
theorem d_M_runIt_86 : decode b_M_runIt 86 = .ok (.aload_n 0, 1) := by decide +kernel
theorem d_M_runIt_87 : decode b_M_runIt 87 = .ok (.iconst 3, 1) := by decide +kernel
theorem d_M_runIt_88 : decode b_M_runIt 88 = .ok (.putfield 279, 3) := by decide +kernel
theorem d_M_runIt_91 : decode b_M_runIt 91 = .ok (.iload_n 1, 1) := by decide +kernel
theorem d_M_runIt_92 : decode b_M_runIt 92 = .ok (.ireturn, 1) := by decide +kernel
theorem d_M_runIt_93 : decode b_M_runIt 93 = .ok (.aload_n 0, 1) := by decide +kernel
theorem d_M_runIt_94 : decode b_M_runIt 94 = .ok (.invokevirtual 266, 3) := by decide +kernel
theorem d_M_runIt_97 : decode b_M_runIt 97 = .ok (.iinc 1 1, 3) := by decide +kernel
theorem d_M_runIt_100 : decode b_M_runIt 100 = .ok (.goto (-86), 3) := by decide +kernel
theorem d_M_run_0 : decode b_M_run 0 = .ok (.aload_n 0, 1) := by decide +kernel
theorem d_M_run_1 : decode b_M_run 1 = .ok (.invokevirtual 263, 3) := by decide +kernel
theorem d_M_run_4 : decode b_M_run 4 = .ok (.aload_n 0, 1) := by decide +kernel
theorem d_M_run_5 : decode b_M_run 5 = .ok (.invokevirtual 288, 3) := by decide +kernel
theorem d_M_run_8 : decode b_M_run 8 = .ok (.istore_n 1, 1) := by decide +kernel
theorem d_M_run_9 : decode b_M_run 9 = .ok (.aload_n 0, 1) := by decide +kernel
theorem d_M_run_10 : decode b_M_run 10 = .ok (.iconst 0, 1) := by decide +kernel
theorem d_M_run_11 : decode b_M_run 11 = .ok (.putfield 234, 3) := by decide +kernel
theorem d_M_run_14 : decode b_M_run 14 = .ok (.aload_n 0, 1) := by decide +kernel
theorem d_M_run_15 : decode b_M_run 15 = .ok (.aload_n 0, 1) := by decide +kernel
theorem d_M_run_16 : decode b_M_run 16 = .ok (.getfield 279, 3) := by decide +kernel
theorem d_M_run_19 : decode b_M_run 19 = .ok (.putfield 291, 3) := by decide +kernel
theorem d_M_run_22 : decode b_M_run 22 = .ok (.aload_n 0, 1) := by decide +kernel
theorem d_M_run_23 : decode b_M_run 23 = .ok (.aload_n 0, 1) := by decide +kernel
theorem d_M_run_24 : decode b_M_run 24 = .ok (.getfield 269, 3) := by decide +kernel
theorem d_M_run_27 : decode b_M_run 27 = .ok (.putfield 58, 3) := by decide +kernel
theorem d_M_run_30 : decode b_M_run 30 = .ok (.aload_n 0, 1) := by decide +kernel
theorem d_M_run_31 : decode b_M_run 31 = .ok (.aload_n 0, 1) := by decide +kernel
theorem d_M_run_32 : decode b_M_run 32 = .ok (.getfield 272, 3) := by decide +kernel
theorem d_M_run_35 : decode b_M_run 35 = .ok (.putfield 61, 3) := by decide +kernel
theorem d_M_run_38 : decode b_M_run 38 = .ok (.iload_n 1, 1) := by decide +kernel
theorem d_M_run_39 : decode b_M_run 39 = .ok (.ireturn, 1) := by decide +kernel
theorem d_M_ended_0 : decode b_M_ended 0 = .ok (.iload_n 1, 1) := by decide +kernel
theorem d_M_ended_1 : decode b_M_ended 1 = .ok (.iconst 0, 1) := by decide +kernel
theorem d_M_ended_2 : decode b_M_ended 2 = .ok (.iconst 2, 1) := by decide +kernel
theorem d_M_ended_3 : decode b_M_ended 3 = .ok (.invokestatic 73, 3) := by decide +kernel
theorem d_M_ended_6 : decode b_M_ended 6 = .ok (.ifCond .ne 5, 3) := by decide +kernel
theorem d_M_ended_9 : decode b_M_ended 9 = .ok (.iconst (-1), 1) := by decide +kernel
theorem d_M_ended_10 : decode b_M_ended 10 = .ok (.ireturn, 1) := by decide +kernel
theorem d_M_ended_11 : decode b_M_ended 11 = .ok (.iload_n 1, 1) := by decide +kernel
theorem d_M_ended_12 : decode b_M_ended 12 = .ok (.ifCond .ne 10, 3) := by decide +kernel
theorem d_M_ended_15 : decode b_M_ended 15 = .ok (.aload_n 0, 1) := by decide +kernel
theorem d_M_ended_16 : decode b_M_ended 16 = .ok (.getfield 291, 3) := by decide +kernel
theorem d_M_ended_19 : decode b_M_ended 19 = .ok (.goto 19, 3) := by decide +kernel
theorem d_M_ended_22 : decode b_M_ended 22 = .ok (.iload_n 1, 1) := by decide +kernel
theorem d_M_ended_23 : decode b_M_ended 23 = .ok (.iconst 1, 1) := by decide +kernel
theorem d_M_ended_24 : decode b_M_ended 24 = .ok (.if_icmp .ne 10, 3) := by decide +kernel
theorem d_M_ended_27 : decode b_M_ended 27 = .ok (.aload_n 0, 1) := by decide +kernel
theorem d_M_ended_28 : decode b_M_ended 28 = .ok (.getfield 58, 3) := by decide +kernel
theorem d_M_ended_31 : decode b_M_ended 31 = .ok (.goto 7, 3) := by decide +kernel
theorem d_M_ended_34 : decode b_M_ended 34 = .ok (.aload_n 0, 1) := by decide +kernel
theorem d_M_ended_35 : decode b_M_ended 35 = .ok (.getfield 61, 3) := by decide +kernel
theorem d_M_ended_38 : decode b_M_ended 38 = .ok (.ireturn, 1) := by decide +kernel
theorem d_M_greatestIn_0 : decode b_M_greatestIn 0 = .ok (.iconst (-1), 1) := by decide +kernel
theorem d_M_greatestIn_1 : decode b_M_greatestIn 1 = .ok (.istore_n 2, 1) := by decide +kernel
theorem d_M_greatestIn_2 : decode b_M_greatestIn 2 = .ok (.iconst 0, 1) := by decide +kernel
theorem d_M_greatestIn_3 : decode b_M_greatestIn 3 = .ok (.istore_n 3, 1) := by decide +kernel
theorem d_M_greatestIn_4 : decode b_M_greatestIn 4 = .ok (.iload_n 3, 1) := by decide +kernel
theorem d_M_greatestIn_5 : decode b_M_greatestIn 5 = .ok (.aload_n 0, 1) := by decide +kernel
theorem d_M_greatestIn_6 : decode b_M_greatestIn 6 = .ok (.getfield 70, 3) := by decide +kernel
theorem d_M_greatestIn_9 : decode b_M_greatestIn 9 = .ok (.if_icmp .ge 34, 3) := by decide +kernel
theorem d_M_greatestIn_12 : decode b_M_greatestIn 12 = .ok (.aload_n 0, 1) := by decide +kernel
theorem d_M_greatestIn_13 : decode b_M_greatestIn 13 = .ok (.getfield 13, 3) := by decide +kernel
theorem d_M_greatestIn_16 : decode b_M_greatestIn 16 = .ok (.iload_n 3, 1) := by decide +kernel
theorem d_M_greatestIn_17 : decode b_M_greatestIn 17 = .ok (.iaload, 1) := by decide +kernel
theorem d_M_greatestIn_18 : decode b_M_greatestIn 18 = .ok (.iload_n 1, 1) := by decide +kernel
theorem d_M_greatestIn_19 : decode b_M_greatestIn 19 = .ok (.if_icmp .ne 16, 3) := by decide +kernel
theorem d_M_greatestIn_22 : decode b_M_greatestIn 22 = .ok (.aload_n 0, 1) := by decide +kernel
theorem d_M_greatestIn_23 : decode b_M_greatestIn 23 = .ok (.iload_n 3, 1) := by decide +kernel
theorem d_M_greatestIn_24 : decode b_M_greatestIn 24 = .ok (.iconst 1, 1) := by decide +kernel
theorem d_M_greatestIn_25 : decode b_M_greatestIn 25 = .ok (.invokevirtual 164, 3) := by decide +kernel
theorem d_M_greatestIn_28 : decode b_M_greatestIn 28 = .ok (.ifCond .eq 7, 3) := by decide +kernel
theorem d_M_greatestIn_31 : decode b_M_greatestIn 31 = .ok (.iload_n 3, 1) := by decide +kernel
theorem d_M_greatestIn_32 : decode b_M_greatestIn 32 = .ok (.goto 4, 3) := by decide +kernel
theorem d_M_greatestIn_35 : decode b_M_greatestIn 35 = .ok (.iload_n 2, 1) := by decide +kernel
theorem d_M_greatestIn_36 : decode b_M_greatestIn 36 = .ok (.istore_n 2, 1) := by decide +kernel
theorem d_M_greatestIn_37 : decode b_M_greatestIn 37 = .ok (.iinc 3 1, 3) := by decide +kernel
theorem d_M_greatestIn_40 : decode b_M_greatestIn 40 = .ok (.goto (-36), 3) := by decide +kernel
theorem d_M_greatestIn_43 : decode b_M_greatestIn 43 = .ok (.iload_n 2, 1) := by decide +kernel
theorem d_M_greatestIn_44 : decode b_M_greatestIn 44 = .ok (.ireturn, 1) := by decide +kernel
theorem d_M_turn_0 : decode b_M_turn 0 = .ok (.aload_n 0, 1) := by decide +kernel
theorem d_M_turn_1 : decode b_M_turn 1 = .ok (.getfield 25, 3) := by decide +kernel
theorem d_M_turn_4 : decode b_M_turn 4 = .ok (.bipush 6, 2) := by decide +kernel
theorem d_M_turn_6 : decode b_M_turn 6 = .ok (.iaload, 1) := by decide +kernel
theorem d_M_turn_7 : decode b_M_turn 7 = .ok (.ifCond .gt 10, 3) := by decide +kernel
theorem d_M_turn_10 : decode b_M_turn 10 = .ok (.aload_n 0, 1) := by decide +kernel
theorem d_M_turn_11 : decode b_M_turn 11 = .ok (.invokevirtual 275, 3) := by decide +kernel
theorem d_M_turn_14 : decode b_M_turn 14 = .ok (.ifCond .eq 6, 3) := by decide +kernel
theorem d_M_turn_17 : decode b_M_turn 17 = .ok (.bipush (-5), 2) := by decide +kernel
theorem d_M_turn_19 : decode b_M_turn 19 = .ok (.ireturn, 1) := by decide +kernel
theorem d_M_turn_20 : decode b_M_turn 20 = .ok (.aload_n 0, 1) := by decide +kernel
theorem d_M_turn_21 : decode b_M_turn 21 = .ok (.invokevirtual 294, 3) := by decide +kernel
theorem d_M_turn_24 : decode b_M_turn 24 = .ok (.aload_n 0, 1) := by decide +kernel
theorem d_M_turn_25 : decode b_M_turn 25 = .ok (.getfield 25, 3) := by decide +kernel
theorem d_M_turn_28 : decode b_M_turn 28 = .ok (.iconst 4, 1) := by decide +kernel
theorem d_M_turn_29 : decode b_M_turn 29 = .ok (.iaload, 1) := by decide +kernel
theorem d_M_turn_30 : decode b_M_turn 30 = .ok (.ireturn, 1) := by decide +kernel
theorem d_M_turnIt_0 : decode b_M_turnIt 0 = .ok (.aload_n 0, 1) := by decide +kernel
theorem d_M_turnIt_1 : decode b_M_turnIt 1 = .ok (.getfield 25, 3) := by decide +kernel
theorem d_M_turnIt_4 : decode b_M_turnIt 4 = .ok (.iconst 4, 1) := by decide +kernel
theorem d_M_turnIt_5 : decode b_M_turnIt 5 = .ok (.iaload, 1) := by decide +kernel
theorem d_M_turnIt_6 : decode b_M_turnIt 6 = .ok (.istore_n 1, 1) := by decide +kernel
theorem d_M_turnIt_7 : decode b_M_turnIt 7 = .ok (.aload_n 0, 1) := by decide +kernel
theorem d_M_turnIt_8 : decode b_M_turnIt 8 = .ok (.iconst 0, 1) := by decide +kernel
theorem d_M_turnIt_9 : decode b_M_turnIt 9 = .ok (.iload_n 1, 1) := by decide +kernel
theorem d_M_turnIt_10 : decode b_M_turnIt 10 = .ok (.aload_n 0, 1) := by decide +kernel
theorem d_M_turnIt_11 : decode b_M_turnIt 11 = .ok (.iconst 0, 1) := by decide +kernel
theorem d_M_turnIt_12 : decode b_M_turnIt 12 = .ok (.invokevirtual 199, 3) := by decide +kernel
theorem d_M_turnIt_15 : decode b_M_turnIt 15 = .ok (.invokevirtual 250, 3) := by decide +kernel
theorem d_M_turnIt_18 : decode b_M_turnIt 18 = .ok (.aload_n 0, 1) := by decide +kernel
theorem d_M_turnIt_19 : decode b_M_turnIt 19 = .ok (.iload_n 1, 1) := by decide +kernel
theorem d_M_turnIt_20 : decode b_M_turnIt 20 = .ok (.iconst 1, 1) := by decide +kernel
theorem d_M_turnIt_21 : decode b_M_turnIt 21 = .ok (.invokevirtual 168, 3) := by decide +kernel
theorem d_M_turnIt_24 : decode b_M_turnIt 24 = .ok (.aload_n 0, 1) := by decide +kernel
theorem d_M_turnIt_25 : decode b_M_turnIt 25 = .ok (.iconst 3, 1) := by decide +kernel
theorem d_M_turnIt_26 : decode b_M_turnIt 26 = .ok (.invokevirtual 199, 3) := by decide +kernel
theorem d_M_turnIt_29 : decode b_M_turnIt 29 = .ok (.iconst 0, 1) := by decide +kernel
theorem d_M_turnIt_30 : decode b_M_turnIt 30 = .ok (.bipush 99, 2) := by decide +kernel
theorem d_M_turnIt_32 : decode b_M_turnIt 32 = .ok (.invokestatic 186, 3) := by decide +kernel
theorem d_M_turnIt_35 : decode b_M_turnIt 35 = .ok (.if_icmp .le 20, 3) := by decide +kernel
theorem d_M_turnIt_38 : decode b_M_turnIt 38 = .ok (.aload_n 0, 1) := by decide +kernel
theorem d_M_turnIt_39 : decode b_M_turnIt 39 = .ok (.getfield 25, 3) := by decide +kernel
theorem d_M_turnIt_42 : decode b_M_turnIt 42 = .ok (.bipush 71, 2) := by decide +kernel
theorem d_M_turnIt_44 : decode b_M_turnIt 44 = .ok (.aload_n 0, 1) := by decide +kernel
theorem d_M_turnIt_45 : decode b_M_turnIt 45 = .ok (.iload_n 1, 1) := by decide +kernel
theorem d_M_turnIt_46 : decode b_M_turnIt 46 = .ok (.invokevirtual 297, 3) := by decide +kernel
theorem d_M_turnIt_49 : decode b_M_turnIt 49 = .ok (.iadd, 1) := by decide +kernel
theorem d_M_turnIt_50 : decode b_M_turnIt 50 = .ok (.iconst 4, 1) := by decide +kernel
theorem d_M_turnIt_51 : decode b_M_turnIt 51 = .ok (.iastore, 1) := by decide +kernel
theorem d_M_turnIt_52 : decode b_M_turnIt 52 = .ok (.goto (-34), 3) := by decide +kernel
theorem d_M_turnIt_55 : decode b_M_turnIt 55 = .ok (.aload_n 0, 1) := by decide +kernel
theorem d_M_turnIt_56 : decode b_M_turnIt 56 = .ok (.getfield 25, 3) := by decide +kernel
theorem d_M_turnIt_59 : decode b_M_turnIt 59 = .ok (.iconst 4, 1) := by decide +kernel
theorem d_M_turnIt_60 : decode b_M_turnIt 60 = .ok (.iconst 1, 1) := by decide +kernel
theorem d_M_turnIt_61 : decode b_M_turnIt 61 = .ok (.iload_n 1, 1) := by decide +kernel
theorem d_M_turnIt_62 : decode b_M_turnIt 62 = .ok (.isub, 1) := by decide +kernel
theorem d_M_turnIt_63 : decode b_M_turnIt 63 = .ok (.iastore, 1) := by decide +kernel
theorem d_M_turnIt_64 : decode b_M_turnIt 64 = .ok (.aload_n 0, 1) := by decide +kernel
theorem d_M_turnIt_65 : decode b_M_turnIt 65 = .ok (.getfield 25, 3) := by decide +kernel
theorem d_M_turnIt_68 : decode b_M_turnIt 68 = .ok (.iconst 5, 1) := by decide +kernel
theorem d_M_turnIt_69 : decode b_M_turnIt 69 = .ok (.dup2, 1) := by decide +kernel
theorem d_M_turnIt_70 : decode b_M_turnIt 70 = .ok (.iaload, 1) := by decide +kernel
theorem d_M_turnIt_71 : decode b_M_turnIt 71 = .ok (.iconst 1, 1) := by decide +kernel
theorem d_M_turnIt_72 : decode b_M_turnIt 72 = .ok (.iadd, 1) := by decide +kernel
theorem d_M_turnIt_73 : decode b_M_turnIt 73 = .ok (.iastore, 1) := by decide +kernel
theorem d_M_turnIt_74 : decode b_M_turnIt 74 = .ok (.return_, 1) := by decide +kernel
theorem d_M_dry_0 : decode b_M_dry 0 = .ok (.iload_n 1, 1) := by decide +kernel
theorem d_M_dry_1 : decode b_M_dry 1 = .ok (.iconst 0, 1) := by decide +kernel
theorem d_M_dry_2 : decode b_M_dry 2 = .ok (.iconst 3, 1) := by decide +kernel
theorem d_M_dry_3 : decode b_M_dry 3 = .ok (.invokestatic 73, 3) := by decide +kernel
theorem d_M_dry_6 : decode b_M_dry 6 = .ok (.ifCond .ne 6, 3) := by decide +kernel
theorem d_M_dry_9 : decode b_M_dry 9 = .ok (.ldc 167, 2) := by decide +kernel
theorem d_M_dry_11 : decode b_M_dry 11 = .ok (.ireturn, 1) := by decide +kernel
theorem d_M_dry_12 : decode b_M_dry 12 = .ok (.aload_n 0, 1) := by decide +kernel
theorem d_M_dry_13 : decode b_M_dry 13 = .ok (.getfield 25, 3) := by decide +kernel
theorem d_M_dry_16 : decode b_M_dry 16 = .ok (.aload_n 0, 1) := by decide +kernel
theorem d_M_dry_17 : decode b_M_dry 17 = .ok (.getfield 30, 3) := by decide +kernel
theorem d_M_dry_20 : decode b_M_dry 20 = .ok (.iconst 0, 1) := by decide +kernel
theorem d_M_dry_21 : decode b_M_dry 21 = .ok (.aaload, 1) := by decide +kernel
theorem d_M_dry_22 : decode b_M_dry 22 = .ok (.invokestatic 300, 3) := by decide +kernel
theorem d_M_dry_25 : decode b_M_dry 25 = .ok (.aload_n 0, 1) := by decide +kernel
theorem d_M_dry_26 : decode b_M_dry 26 = .ok (.invokevirtual 288, 3) := by decide +kernel
theorem d_M_dry_29 : decode b_M_dry 29 = .ok (.istore_n 2, 1) := by decide +kernel
theorem d_M_dry_30 : decode b_M_dry 30 = .ok (.iload_n 1, 1) := by decide +kernel
theorem d_M_dry_31 : decode b_M_dry 31 = .ok (.ifCond .ne 10, 3) := by decide +kernel
theorem d_M_dry_34 : decode b_M_dry 34 = .ok (.aload_n 0, 1) := by decide +kernel
theorem d_M_dry_35 : decode b_M_dry 35 = .ok (.getfield 279, 3) := by decide +kernel
theorem d_M_dry_38 : decode b_M_dry 38 = .ok (.goto 22, 3) := by decide +kernel
theorem d_M_dry_41 : decode b_M_dry 41 = .ok (.iload_n 1, 1) := by decide +kernel
theorem d_M_dry_42 : decode b_M_dry 42 = .ok (.iconst 1, 1) := by decide +kernel
theorem d_M_dry_43 : decode b_M_dry 43 = .ok (.if_icmp .ne 7, 3) := by decide +kernel
theorem d_M_dry_46 : decode b_M_dry 46 = .ok (.iload_n 2, 1) := by decide +kernel
theorem d_M_dry_47 : decode b_M_dry 47 = .ok (.goto 13, 3) := by decide +kernel
theorem d_M_dry_50 : decode b_M_dry 50 = .ok (.aload_n 0, 1) := by decide +kernel
theorem d_M_dry_51 : decode b_M_dry 51 = .ok (.getfield 25, 3) := by decide +kernel
theorem d_M_dry_54 : decode b_M_dry 54 = .ok (.iconst 0, 1) := by decide +kernel
theorem d_M_dry_55 : decode b_M_dry 55 = .ok (.iload_n 1, 1) := by decide +kernel
theorem d_M_dry_56 : decode b_M_dry 56 = .ok (.iadd, 1) := by decide +kernel
theorem d_M_dry_57 : decode b_M_dry 57 = .ok (.iconst 2, 1) := by decide +kernel
theorem d_M_dry_58 : decode b_M_dry 58 = .ok (.isub, 1) := by decide +kernel
theorem d_M_dry_59 : decode b_M_dry 59 = .ok (.iaload, 1) := by decide +kernel
theorem d_M_dry_60 : decode b_M_dry 60 = .ok (.istore_n 3, 1) := by decide +kernel
theorem d_M_dry_61 : decode b_M_dry 61 = .ok (.aload_n 0, 1) := by decide +kernel
theorem d_M_dry_62 : decode b_M_dry 62 = .ok (.getfield 30, 3) := by decide +kernel
theorem d_M_dry_65 : decode b_M_dry 65 = .ok (.iconst 0, 1) := by decide +kernel
theorem d_M_dry_66 : decode b_M_dry 66 = .ok (.aaload, 1) := by decide +kernel
theorem d_M_dry_67 : decode b_M_dry 67 = .ok (.aload_n 0, 1) := by decide +kernel
theorem d_M_dry_68 : decode b_M_dry 68 = .ok (.getfield 25, 3) := by decide +kernel
theorem d_M_dry_71 : decode b_M_dry 71 = .ok (.invokestatic 300, 3) := by decide +kernel
theorem d_M_dry_74 : decode b_M_dry 74 = .ok (.iload_n 3, 1) := by decide +kernel
theorem d_M_dry_75 : decode b_M_dry 75 = .ok (.ireturn, 1) := by decide +kernel
theorem d_M_worthOf_0 : decode b_M_worthOf 0 = .ok (.aload_n 0, 1) := by decide +kernel
theorem d_M_worthOf_1 : decode b_M_worthOf 1 = .ok (.getfield 25, 3) := by decide +kernel
theorem d_M_worthOf_4 : decode b_M_worthOf 4 = .ok (.iconst 0, 1) := by decide +kernel
theorem d_M_worthOf_5 : decode b_M_worthOf 5 = .ok (.iload_n 1, 1) := by decide +kernel
theorem d_M_worthOf_6 : decode b_M_worthOf 6 = .ok (.iadd, 1) := by decide +kernel
theorem d_M_worthOf_7 : decode b_M_worthOf 7 = .ok (.iaload, 1) := by decide +kernel
theorem d_M_worthOf_8 : decode b_M_worthOf 8 = .ok (.aload_n 0, 1) := by decide +kernel
theorem d_M_worthOf_9 : decode b_M_worthOf 9 = .ok (.getfield 25, 3) := by decide +kernel
theorem d_M_worthOf_12 : decode b_M_worthOf 12 = .ok (.iconst 1, 1) := by decide +kernel
theorem d_M_worthOf_13 : decode b_M_worthOf 13 = .ok (.iload_n 1, 1) := by decide +kernel
theorem d_M_worthOf_14 : decode b_M_worthOf 14 = .ok (.isub, 1) := by decide +kernel
theorem d_M_worthOf_15 : decode b_M_worthOf 15 = .ok (.iaload, 1) := by decide +kernel
theorem d_M_worthOf_16 : decode b_M_worthOf 16 = .ok (.isub, 1) := by decide +kernel
theorem d_M_worthOf_17 : decode b_M_worthOf 17 = .ok (.ireturn, 1) := by decide +kernel
theorem d_M_worthIf_0 : decode b_M_worthIf 0 = .ok (.aload_n 0, 1) := by decide +kernel
theorem d_M_worthIf_1 : decode b_M_worthIf 1 = .ok (.getfield 25, 3) := by decide +kernel
theorem d_M_worthIf_4 : decode b_M_worthIf 4 = .ok (.aload_n 0, 1) := by decide +kernel
theorem d_M_worthIf_5 : decode b_M_worthIf 5 = .ok (.getfield 30, 3) := by decide +kernel
theorem d_M_worthIf_8 : decode b_M_worthIf 8 = .ok (.iconst 0, 1) := by decide +kernel
theorem d_M_worthIf_9 : decode b_M_worthIf 9 = .ok (.aaload, 1) := by decide +kernel
theorem d_M_worthIf_10 : decode b_M_worthIf 10 = .ok (.invokestatic 300, 3) := by decide +kernel
theorem d_M_worthIf_13 : decode b_M_worthIf 13 = .ok (.iload_n 1, 1) := by decide +kernel
theorem d_M_worthIf_14 : decode b_M_worthIf 14 = .ok (.ifCond .lt 8, 3) := by decide +kernel
theorem d_M_worthIf_17 : decode b_M_worthIf 17 = .ok (.aload_n 0, 1) := by decide +kernel
theorem d_M_worthIf_18 : decode b_M_worthIf 18 = .ok (.iload_n 1, 1) := by decide +kernel
theorem d_M_worthIf_19 : decode b_M_worthIf 19 = .ok (.invokevirtual 247, 3) := by decide +kernel
theorem d_M_worthIf_22 : decode b_M_worthIf 22 = .ok (.aload_n 0, 1) := by decide +kernel
theorem d_M_worthIf_23 : decode b_M_worthIf 23 = .ok (.invokevirtual 288, 3) := by decide +kernel
theorem d_M_worthIf_26 : decode b_M_worthIf 26 = .ok (.pop, 1) := by decide +kernel
theorem d_M_worthIf_27 : decode b_M_worthIf 27 = .ok (.aload_n 0, 1) := by decide +kernel
theorem d_M_worthIf_28 : decode b_M_worthIf 28 = .ok (.iload_n 2, 1) := by decide +kernel
theorem d_M_worthIf_29 : decode b_M_worthIf 29 = .ok (.invokevirtual 304, 3) := by decide +kernel
theorem d_M_worthIf_32 : decode b_M_worthIf 32 = .ok (.istore_n 3, 1) := by decide +kernel
theorem d_M_worthIf_33 : decode b_M_worthIf 33 = .ok (.aload_n 0, 1) := by decide +kernel
theorem d_M_worthIf_34 : decode b_M_worthIf 34 = .ok (.getfield 30, 3) := by decide +kernel
theorem d_M_worthIf_37 : decode b_M_worthIf 37 = .ok (.iconst 0, 1) := by decide +kernel
theorem d_M_worthIf_38 : decode b_M_worthIf 38 = .ok (.aaload, 1) := by decide +kernel
theorem d_M_worthIf_39 : decode b_M_worthIf 39 = .ok (.aload_n 0, 1) := by decide +kernel
theorem d_M_worthIf_40 : decode b_M_worthIf 40 = .ok (.getfield 25, 3) := by decide +kernel
theorem d_M_worthIf_43 : decode b_M_worthIf 43 = .ok (.invokestatic 300, 3) := by decide +kernel
theorem d_M_worthIf_46 : decode b_M_worthIf 46 = .ok (.iload_n 3, 1) := by decide +kernel
theorem d_M_worthIf_47 : decode b_M_worthIf 47 = .ok (.ireturn, 1) := by decide +kernel
theorem d_M_worth_0 : decode b_M_worth 0 = .ok (.aload_n 0, 1) := by decide +kernel
theorem d_M_worth_1 : decode b_M_worth 1 = .ok (.iload_n 1, 1) := by decide +kernel
theorem d_M_worth_2 : decode b_M_worth 2 = .ok (.invokevirtual 160, 3) := by decide +kernel
theorem d_M_worth_5 : decode b_M_worth 5 = .ok (.ifCond .eq 38, 3) := by decide +kernel
theorem d_M_worth_8 : decode b_M_worth 8 = .ok (.aload_n 0, 1) := by decide +kernel
theorem d_M_worth_9 : decode b_M_worth 9 = .ok (.iload_n 1, 1) := by decide +kernel
theorem d_M_worth_10 : decode b_M_worth 10 = .ok (.iconst 1, 1) := by decide +kernel
theorem d_M_worth_11 : decode b_M_worth 11 = .ok (.invokevirtual 164, 3) := by decide +kernel
theorem d_M_worth_14 : decode b_M_worth 14 = .ok (.ifCond .eq 29, 3) := by decide +kernel
theorem d_M_worth_17 : decode b_M_worth 17 = .ok (.aload_n 0, 1) := by decide +kernel
theorem d_M_worth_18 : decode b_M_worth 18 = .ok (.getfield 25, 3) := by decide +kernel
theorem d_M_worth_21 : decode b_M_worth 21 = .ok (.bipush 6, 2) := by decide +kernel
theorem d_M_worth_23 : decode b_M_worth 23 = .ok (.iaload, 1) := by decide +kernel
theorem d_M_worth_24 : decode b_M_worth 24 = .ok (.bipush 64, 2) := by decide +kernel
theorem d_M_worth_26 : decode b_M_worth 26 = .ok (.if_icmp .ge 17, 3) := by decide +kernel
theorem d_M_worth_29 : decode b_M_worth 29 = .ok (.aload_n 0, 1) := by decide +kernel
theorem d_M_worth_30 : decode b_M_worth 30 = .ok (.iload_n 1, 1) := by decide +kernel
theorem d_M_worth_31 : decode b_M_worth 31 = .ok (.aload_n 0, 1) := by decide +kernel
theorem d_M_worth_32 : decode b_M_worth 32 = .ok (.getfield 13, 3) := by decide +kernel
theorem d_M_worth_35 : decode b_M_worth 35 = .ok (.iload_n 1, 1) := by decide +kernel
theorem d_M_worth_36 : decode b_M_worth 36 = .ok (.iaload, 1) := by decide +kernel
theorem d_M_worth_37 : decode b_M_worth 37 = .ok (.invokevirtual 307, 3) := by decide +kernel
theorem d_M_worth_40 : decode b_M_worth 40 = .ok (.goto 5, 3) := by decide +kernel
theorem d_M_worth_43 : decode b_M_worth 43 = .ok (.ldc 167, 2) := by decide +kernel
theorem d_M_worth_45 : decode b_M_worth 45 = .ok (.ireturn, 1) := by decide +kernel
theorem d_M_best_0 : decode b_M_best 0 = .ok (.iload_n 1, 1) := by decide +kernel
theorem d_M_best_1 : decode b_M_best 1 = .ok (.iconst 0, 1) := by decide +kernel
theorem d_M_best_2 : decode b_M_best 2 = .ok (.iconst 1, 1) := by decide +kernel
theorem d_M_best_3 : decode b_M_best 3 = .ok (.invokestatic 73, 3) := by decide +kernel
theorem d_M_best_6 : decode b_M_best 6 = .ok (.ifCond .eq 12, 3) := by decide +kernel
theorem d_M_best_9 : decode b_M_best 9 = .ok (.iload_n 2, 1) := by decide +kernel
theorem d_M_best_10 : decode b_M_best 10 = .ok (.iconst 0, 1) := by decide +kernel
theorem d_M_best_11 : decode b_M_best 11 = .ok (.iconst 1, 1) := by decide +kernel
theorem d_M_best_12 : decode b_M_best 12 = .ok (.invokestatic 73, 3) := by decide +kernel
theorem d_M_best_15 : decode b_M_best 15 = .ok (.ifCond .ne 6, 3) := by decide +kernel
theorem d_M_best_18 : decode b_M_best 18 = .ok (.ldc 167, 2) := by decide +kernel
theorem d_M_best_20 : decode b_M_best 20 = .ok (.ireturn, 1) := by decide +kernel
theorem d_M_best_21 : decode b_M_best 21 = .ok (.bipush (-2), 2) := by decide +kernel
theorem d_M_best_23 : decode b_M_best 23 = .ok (.istore_n 3, 1) := by decide +kernel
theorem d_M_best_24 : decode b_M_best 24 = .ok (.aload_n 0, 1) := by decide +kernel
theorem d_M_best_25 : decode b_M_best 25 = .ok (.iconst (-1), 1) := by decide +kernel
theorem d_M_best_26 : decode b_M_best 26 = .ok (.iload_n 1, 1) := by decide +kernel
theorem d_M_best_27 : decode b_M_best 27 = .ok (.invokevirtual 307, 3) := by decide +kernel
theorem d_M_best_30 : decode b_M_best 30 = .ok (.istore 4, 2) := by decide +kernel
theorem d_M_best_32 : decode b_M_best 32 = .ok (.iconst 0, 1) := by decide +kernel
theorem d_M_best_33 : decode b_M_best 33 = .ok (.istore 5, 2) := by decide +kernel
theorem d_M_best_35 : decode b_M_best 35 = .ok (.iload 5, 2) := by decide +kernel
theorem d_M_best_37 : decode b_M_best 37 = .ok (.aload_n 0, 1) := by decide +kernel
theorem d_M_best_38 : decode b_M_best 38 = .ok (.getfield 70, 3) := by decide +kernel
theorem d_M_best_41 : decode b_M_best 41 = .ok (.if_icmp .ge 81, 3) := by decide +kernel
theorem d_M_best_44 : decode b_M_best 44 = .ok (.aload_n 0, 1) := by decide +kernel
theorem d_M_best_45 : decode b_M_best 45 = .ok (.getfield 25, 3) := by decide +kernel
theorem d_M_best_48 : decode b_M_best 48 = .ok (.bipush 6, 2) := by decide +kernel
theorem d_M_best_50 : decode b_M_best 50 = .ok (.iaload, 1) := by decide +kernel
theorem d_M_best_51 : decode b_M_best 51 = .ok (.bipush 64, 2) := by decide +kernel
theorem d_M_best_53 : decode b_M_best 53 = .ok (.if_icmp .ge 69, 3) := by decide +kernel
theorem d_M_best_56 : decode b_M_best 56 = .ok (.aload_n 0, 1) := by decide +kernel
theorem d_M_best_57 : decode b_M_best 57 = .ok (.getfield 13, 3) := by decide +kernel
theorem d_M_best_60 : decode b_M_best 60 = .ok (.iload 5, 2) := by decide +kernel
theorem d_M_best_62 : decode b_M_best 62 = .ok (.iaload, 1) := by decide +kernel
theorem d_M_best_63 : decode b_M_best 63 = .ok (.iload_n 1, 1) := by decide +kernel
theorem d_M_best_64 : decode b_M_best 64 = .ok (.if_icmp .ne 52, 3) := by decide +kernel
theorem d_M_best_67 : decode b_M_best 67 = .ok (.aload_n 0, 1) := by decide +kernel
theorem d_M_best_68 : decode b_M_best 68 = .ok (.iload 5, 2) := by decide +kernel
theorem d_M_best_70 : decode b_M_best 70 = .ok (.iconst 1, 1) := by decide +kernel
theorem d_M_best_71 : decode b_M_best 71 = .ok (.invokevirtual 164, 3) := by decide +kernel
theorem d_M_best_74 : decode b_M_best 74 = .ok (.ifCond .eq 42, 3) := by decide +kernel
theorem d_M_best_77 : decode b_M_best 77 = .ok (.aload_n 0, 1) := by decide +kernel
theorem d_M_best_78 : decode b_M_best 78 = .ok (.iload 5, 2) := by decide +kernel
theorem d_M_best_80 : decode b_M_best 80 = .ok (.iload_n 1, 1) := by decide +kernel
theorem d_M_best_81 : decode b_M_best 81 = .ok (.invokevirtual 307, 3) := by decide +kernel
theorem d_M_best_84 : decode b_M_best 84 = .ok (.istore 6, 2) := by decide +kernel
theorem d_M_best_86 : decode b_M_best 86 = .ok (.iload 6, 2) := by decide +kernel
theorem d_M_best_88 : decode b_M_best 88 = .ok (.iload 4, 2) := by decide +kernel
theorem d_M_best_90 : decode b_M_best 90 = .ok (.if_icmp .le 8, 3) := by decide +kernel
theorem d_M_best_93 : decode b_M_best 93 = .ok (.iload 5, 2) := by decide +kernel
theorem d_M_best_95 : decode b_M_best 95 = .ok (.goto 4, 3) := by decide +kernel
theorem d_M_best_98 : decode b_M_best 98 = .ok (.iload_n 3, 1) := by decide +kernel
theorem d_M_best_99 : decode b_M_best 99 = .ok (.istore_n 3, 1) := by decide +kernel
theorem d_M_best_100 : decode b_M_best 100 = .ok (.iload 6, 2) := by decide +kernel
theorem d_M_best_102 : decode b_M_best 102 = .ok (.iload 4, 2) := by decide +kernel
theorem d_M_best_104 : decode b_M_best 104 = .ok (.if_icmp .le 8, 3) := by decide +kernel
theorem d_M_best_107 : decode b_M_best 107 = .ok (.iload 6, 2) := by decide +kernel
theorem d_M_best_109 : decode b_M_best 109 = .ok (.goto 5, 3) := by decide +kernel
theorem d_M_best_112 : decode b_M_best 112 = .ok (.iload 4, 2) := by decide +kernel
theorem d_M_best_114 : decode b_M_best 114 = .ok (.istore 4, 2) := by decide +kernel
theorem d_M_best_116 : decode b_M_best 116 = .ok (.iinc 5 1, 3) := by decide +kernel
theorem d_M_best_119 : decode b_M_best 119 = .ok (.goto (-84), 3) := by decide +kernel
theorem d_M_best_122 : decode b_M_best 122 = .ok (.iload_n 2, 1) := by decide +kernel
theorem d_M_best_123 : decode b_M_best 123 = .ok (.ifCond .ne 7, 3) := by decide +kernel
theorem d_M_best_126 : decode b_M_best 126 = .ok (.iload_n 3, 1) := by decide +kernel
theorem d_M_best_127 : decode b_M_best 127 = .ok (.goto 5, 3) := by decide +kernel
theorem d_M_best_130 : decode b_M_best 130 = .ok (.iload 4, 2) := by decide +kernel
theorem d_M_best_132 : decode b_M_best 132 = .ok (.ireturn, 1) := by decide +kernel
theorem d_M_reach_0 : decode b_M_reach 0 = .ok (.iload_n 2, 1) := by decide +kernel
theorem d_M_reach_1 : decode b_M_reach 1 = .ok (.ifCond .ne 10, 3) := by decide +kernel
theorem d_M_reach_4 : decode b_M_reach 4 = .ok (.aload_n 0, 1) := by decide +kernel
theorem d_M_reach_5 : decode b_M_reach 5 = .ok (.iload 4, 2) := by decide +kernel
theorem d_M_reach_7 : decode b_M_reach 7 = .ok (.invokevirtual 304, 3) := by decide +kernel
theorem d_M_reach_10 : decode b_M_reach 10 = .ok (.ireturn, 1) := by decide +kernel
theorem d_M_reach_11 : decode b_M_reach 11 = .ok (.aload_n 0, 1) := by decide +kernel
theorem d_M_reach_12 : decode b_M_reach 12 = .ok (.getfield 25, 3) := by decide +kernel
theorem d_M_reach_15 : decode b_M_reach 15 = .ok (.aload_n 0, 1) := by decide +kernel
theorem d_M_reach_16 : decode b_M_reach 16 = .ok (.getfield 30, 3) := by decide +kernel
theorem d_M_reach_19 : decode b_M_reach 19 = .ok (.iload_n 1, 1) := by decide +kernel
theorem d_M_reach_20 : decode b_M_reach 20 = .ok (.aaload, 1) := by decide +kernel
theorem d_M_reach_21 : decode b_M_reach 21 = .ok (.invokestatic 300, 3) := by decide +kernel
theorem d_M_reach_24 : decode b_M_reach 24 = .ok (.aload_n 0, 1) := by decide +kernel
theorem d_M_reach_25 : decode b_M_reach 25 = .ok (.invokevirtual 288, 3) := by decide +kernel
theorem d_M_reach_28 : decode b_M_reach 28 = .ok (.pop, 1) := by decide +kernel
theorem d_M_reach_29 : decode b_M_reach 29 = .ok (.aload_n 0, 1) := by decide +kernel
theorem d_M_reach_30 : decode b_M_reach 30 = .ok (.iload_n 1, 1) := by decide +kernel
theorem d_M_reach_31 : decode b_M_reach 31 = .ok (.iconst 1, 1) := by decide +kernel
theorem d_M_reach_32 : decode b_M_reach 32 = .ok (.iadd, 1) := by decide +kernel
theorem d_M_reach_33 : decode b_M_reach 33 = .ok (.iload_n 2, 1) := by decide +kernel
theorem d_M_reach_34 : decode b_M_reach 34 = .ok (.iconst 1, 1) := by decide +kernel
theorem d_M_reach_35 : decode b_M_reach 35 = .ok (.isub, 1) := by decide +kernel
theorem d_M_reach_36 : decode b_M_reach 36 = .ok (.iconst 1, 1) := by decide +kernel
theorem d_M_reach_37 : decode b_M_reach 37 = .ok (.iload_n 3, 1) := by decide +kernel
theorem d_M_reach_38 : decode b_M_reach 38 = .ok (.isub, 1) := by decide +kernel
theorem d_M_reach_39 : decode b_M_reach 39 = .ok (.iload 4, 2) := by decide +kernel
theorem d_M_reach_41 : decode b_M_reach 41 = .ok (.invokevirtual 310, 3) := by decide +kernel
theorem d_M_reach_44 : decode b_M_reach 44 = .ok (.istore 5, 2) := by decide +kernel
theorem d_M_reach_46 : decode b_M_reach 46 = .ok (.aload_n 0, 1) := by decide +kernel
theorem d_M_reach_47 : decode b_M_reach 47 = .ok (.getfield 30, 3) := by decide +kernel
theorem d_M_reach_50 : decode b_M_reach 50 = .ok (.iload_n 1, 1) := by decide +kernel
theorem d_M_reach_51 : decode b_M_reach 51 = .ok (.aaload, 1) := by decide +kernel
theorem d_M_reach_52 : decode b_M_reach 52 = .ok (.aload_n 0, 1) := by decide +kernel
theorem d_M_reach_53 : decode b_M_reach 53 = .ok (.getfield 25, 3) := by decide +kernel
theorem d_M_reach_56 : decode b_M_reach 56 = .ok (.invokestatic 300, 3) := by decide +kernel
theorem d_M_reach_59 : decode b_M_reach 59 = .ok (.iconst 0, 1) := by decide +kernel
theorem d_M_reach_60 : decode b_M_reach 60 = .ok (.istore 6, 2) := by decide +kernel
theorem d_M_reach_62 : decode b_M_reach 62 = .ok (.iconst 0, 1) := by decide +kernel
theorem d_M_reach_63 : decode b_M_reach 63 = .ok (.istore 7, 2) := by decide +kernel
theorem d_M_reach_65 : decode b_M_reach 65 = .ok (.iload 7, 2) := by decide +kernel
theorem d_M_reach_67 : decode b_M_reach 67 = .ok (.aload_n 0, 1) := by decide +kernel
theorem d_M_reach_68 : decode b_M_reach 68 = .ok (.getfield 70, 3) := by decide +kernel
theorem d_M_reach_71 : decode b_M_reach 71 = .ok (.if_icmp .ge 131, 3) := by decide +kernel
theorem d_M_reach_74 : decode b_M_reach 74 = .ok (.iload 6, 2) := by decide +kernel
theorem d_M_reach_76 : decode b_M_reach 76 = .ok (.iconst 3, 1) := by decide +kernel
theorem d_M_reach_77 : decode b_M_reach 77 = .ok (.if_icmp .ge 125, 3) := by decide +kernel
theorem d_M_reach_80 : decode b_M_reach 80 = .ok (.aload_n 0, 1) := by decide +kernel
theorem d_M_reach_81 : decode b_M_reach 81 = .ok (.getfield 25, 3) := by decide +kernel
theorem d_M_reach_84 : decode b_M_reach 84 = .ok (.bipush 6, 2) := by decide +kernel
theorem d_M_reach_86 : decode b_M_reach 86 = .ok (.iaload, 1) := by decide +kernel
theorem d_M_reach_87 : decode b_M_reach 87 = .ok (.bipush 64, 2) := by decide +kernel
theorem d_M_reach_89 : decode b_M_reach 89 = .ok (.if_icmp .ge 113, 3) := by decide +kernel
theorem d_M_reach_92 : decode b_M_reach 92 = .ok (.aload_n 0, 1) := by decide +kernel
theorem d_M_reach_93 : decode b_M_reach 93 = .ok (.getfield 13, 3) := by decide +kernel
theorem d_M_reach_96 : decode b_M_reach 96 = .ok (.iload 7, 2) := by decide +kernel
theorem d_M_reach_98 : decode b_M_reach 98 = .ok (.iaload, 1) := by decide +kernel
theorem d_M_reach_99 : decode b_M_reach 99 = .ok (.iload_n 3, 1) := by decide +kernel
theorem d_M_reach_100 : decode b_M_reach 100 = .ok (.if_icmp .ne 96, 3) := by decide +kernel
theorem d_M_reach_103 : decode b_M_reach 103 = .ok (.aload_n 0, 1) := by decide +kernel
theorem d_M_reach_104 : decode b_M_reach 104 = .ok (.iload 7, 2) := by decide +kernel
theorem d_M_reach_106 : decode b_M_reach 106 = .ok (.iconst 1, 1) := by decide +kernel
theorem d_M_reach_107 : decode b_M_reach 107 = .ok (.invokevirtual 164, 3) := by decide +kernel
theorem d_M_reach_110 : decode b_M_reach 110 = .ok (.ifCond .eq 86, 3) := by decide +kernel
theorem d_M_reach_113 : decode b_M_reach 113 = .ok (.iinc 6 1, 3) := by decide +kernel
theorem d_M_reach_116 : decode b_M_reach 116 = .ok (.aload_n 0, 1) := by decide +kernel
theorem d_M_reach_117 : decode b_M_reach 117 = .ok (.iload 7, 2) := by decide +kernel
theorem d_M_reach_119 : decode b_M_reach 119 = .ok (.invokevirtual 247, 3) := by decide +kernel
theorem d_M_reach_122 : decode b_M_reach 122 = .ok (.aload_n 0, 1) := by decide +kernel
theorem d_M_reach_123 : decode b_M_reach 123 = .ok (.invokevirtual 288, 3) := by decide +kernel
theorem d_M_reach_126 : decode b_M_reach 126 = .ok (.pop, 1) := by decide +kernel
theorem d_M_reach_127 : decode b_M_reach 127 = .ok (.aload_n 0, 1) := by decide +kernel
theorem d_M_reach_128 : decode b_M_reach 128 = .ok (.iload_n 1, 1) := by decide +kernel
theorem d_M_reach_129 : decode b_M_reach 129 = .ok (.iconst 1, 1) := by decide +kernel
theorem d_M_reach_130 : decode b_M_reach 130 = .ok (.iadd, 1) := by decide +kernel
theorem d_M_reach_131 : decode b_M_reach 131 = .ok (.iload_n 2, 1) := by decide +kernel
theorem d_M_reach_132 : decode b_M_reach 132 = .ok (.iconst 1, 1) := by decide +kernel
theorem d_M_reach_133 : decode b_M_reach 133 = .ok (.isub, 1) := by decide +kernel
theorem d_M_reach_134 : decode b_M_reach 134 = .ok (.iconst 1, 1) := by decide +kernel
theorem d_M_reach_135 : decode b_M_reach 135 = .ok (.iload_n 3, 1) := by decide +kernel
theorem d_M_reach_136 : decode b_M_reach 136 = .ok (.isub, 1) := by decide +kernel
theorem d_M_reach_137 : decode b_M_reach 137 = .ok (.iload 4, 2) := by decide +kernel
theorem d_M_reach_139 : decode b_M_reach 139 = .ok (.invokevirtual 310, 3) := by decide +kernel
theorem d_M_reach_142 : decode b_M_reach 142 = .ok (.istore 8, 2) := by decide +kernel
theorem d_M_reach_144 : decode b_M_reach 144 = .ok (.iload_n 3, 1) := by decide +kernel
theorem d_M_reach_145 : decode b_M_reach 145 = .ok (.iload 4, 2) := by decide +kernel
theorem d_M_reach_147 : decode b_M_reach 147 = .ok (.if_icmp .ne 20, 3) := by decide +kernel
theorem d_M_reach_150 : decode b_M_reach 150 = .ok (.iload 8, 2) := by decide +kernel
theorem d_M_reach_152 : decode b_M_reach 152 = .ok (.iload 5, 2) := by decide +kernel
theorem d_M_reach_154 : decode b_M_reach 154 = .ok (.if_icmp .le 8, 3) := by decide +kernel
theorem d_M_reach_157 : decode b_M_reach 157 = .ok (.iload 8, 2) := by decide +kernel
theorem d_M_reach_159 : decode b_M_reach 159 = .ok (.goto 22, 3) := by decide +kernel
theorem d_M_reach_162 : decode b_M_reach 162 = .ok (.iload 5, 2) := by decide +kernel
theorem d_M_reach_164 : decode b_M_reach 164 = .ok (.goto 17, 3) := by decide +kernel
theorem d_M_reach_167 : decode b_M_reach 167 = .ok (.iload 8, 2) := by decide +kernel
theorem d_M_reach_169 : decode b_M_reach 169 = .ok (.iload 5, 2) := by decide +kernel
theorem d_M_reach_171 : decode b_M_reach 171 = .ok (.if_icmp .ge 8, 3) := by decide +kernel
theorem d_M_reach_174 : decode b_M_reach 174 = .ok (.iload 8, 2) := by decide +kernel
theorem d_M_reach_176 : decode b_M_reach 176 = .ok (.goto 5, 3) := by decide +kernel
theorem d_M_reach_179 : decode b_M_reach 179 = .ok (.iload 5, 2) := by decide +kernel
theorem d_M_reach_181 : decode b_M_reach 181 = .ok (.istore 5, 2) := by decide +kernel
theorem d_M_reach_183 : decode b_M_reach 183 = .ok (.aload_n 0, 1) := by decide +kernel
theorem d_M_reach_184 : decode b_M_reach 184 = .ok (.getfield 30, 3) := by decide +kernel
theorem d_M_reach_187 : decode b_M_reach 187 = .ok (.iload_n 1, 1) := by decide +kernel
theorem d_M_reach_188 : decode b_M_reach 188 = .ok (.aaload, 1) := by decide +kernel
theorem d_M_reach_189 : decode b_M_reach 189 = .ok (.aload_n 0, 1) := by decide +kernel
theorem d_M_reach_190 : decode b_M_reach 190 = .ok (.getfield 25, 3) := by decide +kernel
theorem d_M_reach_193 : decode b_M_reach 193 = .ok (.invokestatic 300, 3) := by decide +kernel
theorem d_M_reach_196 : decode b_M_reach 196 = .ok (.iinc 7 1, 3) := by decide +kernel
theorem d_M_reach_199 : decode b_M_reach 199 = .ok (.goto (-134), 3) := by decide +kernel
theorem d_M_reach_202 : decode b_M_reach 202 = .ok (.iload 5, 2) := by decide +kernel
theorem d_M_reach_204 : decode b_M_reach 204 = .ok (.ireturn, 1) := by decide +kernel
theorem d_M_matter_0 : decode b_M_matter 0 = .ok (.aload_n 0, 1) := by decide +kernel
theorem d_M_matter_1 : decode b_M_matter 1 = .ok (.getfield 25, 3) := by decide +kernel
theorem d_M_matter_4 : decode b_M_matter 4 = .ok (.aload_n 0, 1) := by decide +kernel
theorem d_M_matter_5 : decode b_M_matter 5 = .ok (.getfield 30, 3) := by decide +kernel
theorem d_M_matter_8 : decode b_M_matter 8 = .ok (.iconst 0, 1) := by decide +kernel
theorem d_M_matter_9 : decode b_M_matter 9 = .ok (.aaload, 1) := by decide +kernel
theorem d_M_matter_10 : decode b_M_matter 10 = .ok (.invokestatic 300, 3) := by decide +kernel
theorem d_M_matter_13 : decode b_M_matter 13 = .ok (.aload_n 0, 1) := by decide +kernel
theorem d_M_matter_14 : decode b_M_matter 14 = .ok (.invokevirtual 288, 3) := by decide +kernel
theorem d_M_matter_17 : decode b_M_matter 17 = .ok (.pop, 1) := by decide +kernel
theorem d_M_matter_18 : decode b_M_matter 18 = .ok (.aload_n 0, 1) := by decide +kernel
theorem d_M_matter_19 : decode b_M_matter 19 = .ok (.getfield 279, 3) := by decide +kernel
theorem d_M_matter_22 : decode b_M_matter 22 = .ok (.istore_n 1, 1) := by decide +kernel
theorem d_M_matter_23 : decode b_M_matter 23 = .ok (.aload_n 0, 1) := by decide +kernel
theorem d_M_matter_24 : decode b_M_matter 24 = .ok (.getfield 25, 3) := by decide +kernel
theorem d_M_matter_27 : decode b_M_matter 27 = .ok (.iconst 0, 1) := by decide +kernel
theorem d_M_matter_28 : decode b_M_matter 28 = .ok (.iaload, 1) := by decide +kernel
theorem d_M_matter_29 : decode b_M_matter 29 = .ok (.istore_n 2, 1) := by decide +kernel
theorem d_M_matter_30 : decode b_M_matter 30 = .ok (.aload_n 0, 1) := by decide +kernel
theorem d_M_matter_31 : decode b_M_matter 31 = .ok (.getfield 25, 3) := by decide +kernel
theorem d_M_matter_34 : decode b_M_matter 34 = .ok (.iconst 1, 1) := by decide +kernel
theorem d_M_matter_35 : decode b_M_matter 35 = .ok (.iaload, 1) := by decide +kernel
theorem d_M_matter_36 : decode b_M_matter 36 = .ok (.istore_n 3, 1) := by decide +kernel
theorem d_M_matter_37 : decode b_M_matter 37 = .ok (.aload_n 0, 1) := by decide +kernel
theorem d_M_matter_38 : decode b_M_matter 38 = .ok (.getfield 30, 3) := by decide +kernel
theorem d_M_matter_41 : decode b_M_matter 41 = .ok (.iconst 0, 1) := by decide +kernel
theorem d_M_matter_42 : decode b_M_matter 42 = .ok (.aaload, 1) := by decide +kernel
theorem d_M_matter_43 : decode b_M_matter 43 = .ok (.aload_n 0, 1) := by decide +kernel
theorem d_M_matter_44 : decode b_M_matter 44 = .ok (.getfield 25, 3) := by decide +kernel
theorem d_M_matter_47 : decode b_M_matter 47 = .ok (.invokestatic 300, 3) := by decide +kernel
theorem d_M_matter_50 : decode b_M_matter 50 = .ok (.iconst 0, 1) := by decide +kernel
theorem d_M_matter_51 : decode b_M_matter 51 = .ok (.istore 4, 2) := by decide +kernel
theorem d_M_matter_53 : decode b_M_matter 53 = .ok (.iconst 0, 1) := by decide +kernel
theorem d_M_matter_54 : decode b_M_matter 54 = .ok (.istore 5, 2) := by decide +kernel
theorem d_M_matter_56 : decode b_M_matter 56 = .ok (.iload 5, 2) := by decide +kernel
theorem d_M_matter_58 : decode b_M_matter 58 = .ok (.aload_n 0, 1) := by decide +kernel
theorem d_M_matter_59 : decode b_M_matter 59 = .ok (.getfield 70, 3) := by decide +kernel
theorem d_M_matter_62 : decode b_M_matter 62 = .ok (.if_icmp .ge 89, 3) := by decide +kernel
theorem d_M_matter_65 : decode b_M_matter 65 = .ok (.aload_n 0, 1) := by decide +kernel
theorem d_M_matter_66 : decode b_M_matter 66 = .ok (.iload 5, 2) := by decide +kernel
theorem d_M_matter_68 : decode b_M_matter 68 = .ok (.iconst 3, 1) := by decide +kernel
theorem d_M_matter_69 : decode b_M_matter 69 = .ok (.invokevirtual 164, 3) := by decide +kernel
theorem d_M_matter_72 : decode b_M_matter 72 = .ok (.ifCond .eq 73, 3) := by decide +kernel
theorem d_M_matter_75 : decode b_M_matter 75 = .ok (.aload_n 0, 1) := by decide +kernel
theorem d_M_matter_76 : decode b_M_matter 76 = .ok (.getfield 25, 3) := by decide +kernel
theorem d_M_matter_79 : decode b_M_matter 79 = .ok (.bipush 71, 2) := by decide +kernel
theorem d_M_matter_81 : decode b_M_matter 81 = .ok (.iload 5, 2) := by decide +kernel
theorem d_M_matter_83 : decode b_M_matter 83 = .ok (.iadd, 1) := by decide +kernel
theorem d_M_matter_84 : decode b_M_matter 84 = .ok (.iconst 4, 1) := by decide +kernel
theorem d_M_matter_85 : decode b_M_matter 85 = .ok (.iastore, 1) := by decide +kernel
theorem d_M_matter_86 : decode b_M_matter 86 = .ok (.aload_n 0, 1) := by decide +kernel
theorem d_M_matter_87 : decode b_M_matter 87 = .ok (.invokevirtual 288, 3) := by decide +kernel
theorem d_M_matter_90 : decode b_M_matter 90 = .ok (.pop, 1) := by decide +kernel
theorem d_M_matter_91 : decode b_M_matter 91 = .ok (.iload 4, 2) := by decide +kernel
theorem d_M_matter_93 : decode b_M_matter 93 = .ok (.aload_n 0, 1) := by decide +kernel
theorem d_M_matter_94 : decode b_M_matter 94 = .ok (.getfield 279, 3) := by decide +kernel
theorem d_M_matter_97 : decode b_M_matter 97 = .ok (.iload_n 1, 1) := by decide +kernel
theorem d_M_matter_98 : decode b_M_matter 98 = .ok (.if_icmp .ne 23, 3) := by decide +kernel
theorem d_M_matter_101 : decode b_M_matter 101 = .ok (.aload_n 0, 1) := by decide +kernel
theorem d_M_matter_102 : decode b_M_matter 102 = .ok (.getfield 25, 3) := by decide +kernel
theorem d_M_matter_105 : decode b_M_matter 105 = .ok (.iconst 0, 1) := by decide +kernel
theorem d_M_matter_106 : decode b_M_matter 106 = .ok (.iaload, 1) := by decide +kernel
theorem d_M_matter_107 : decode b_M_matter 107 = .ok (.iload_n 2, 1) := by decide +kernel
theorem d_M_matter_108 : decode b_M_matter 108 = .ok (.if_icmp .ne 13, 3) := by decide +kernel
theorem d_M_matter_111 : decode b_M_matter 111 = .ok (.aload_n 0, 1) := by decide +kernel
theorem d_M_matter_112 : decode b_M_matter 112 = .ok (.getfield 25, 3) := by decide +kernel
theorem d_M_matter_115 : decode b_M_matter 115 = .ok (.iconst 1, 1) := by decide +kernel
theorem d_M_matter_116 : decode b_M_matter 116 = .ok (.iaload, 1) := by decide +kernel
theorem d_M_matter_117 : decode b_M_matter 117 = .ok (.iload_n 3, 1) := by decide +kernel
theorem d_M_matter_118 : decode b_M_matter 118 = .ok (.if_icmp .eq 10, 3) := by decide +kernel
theorem d_M_matter_121 : decode b_M_matter 121 = .ok (.iconst 1, 1) := by decide +kernel
theorem d_M_matter_122 : decode b_M_matter 122 = .ok (.iload 5, 2) := by decide +kernel
theorem d_M_matter_124 : decode b_M_matter 124 = .ok (.ishl, 1) := by decide +kernel
theorem d_M_matter_125 : decode b_M_matter 125 = .ok (.goto 4, 3) := by decide +kernel
theorem d_M_matter_128 : decode b_M_matter 128 = .ok (.iconst 0, 1) := by decide +kernel
theorem d_M_matter_129 : decode b_M_matter 129 = .ok (.ior, 1) := by decide +kernel
theorem d_M_matter_130 : decode b_M_matter 130 = .ok (.istore 4, 2) := by decide +kernel
theorem d_M_matter_132 : decode b_M_matter 132 = .ok (.aload_n 0, 1) := by decide +kernel
theorem d_M_matter_133 : decode b_M_matter 133 = .ok (.getfield 30, 3) := by decide +kernel
theorem d_M_matter_136 : decode b_M_matter 136 = .ok (.iconst 0, 1) := by decide +kernel
theorem d_M_matter_137 : decode b_M_matter 137 = .ok (.aaload, 1) := by decide +kernel
theorem d_M_matter_138 : decode b_M_matter 138 = .ok (.aload_n 0, 1) := by decide +kernel
theorem d_M_matter_139 : decode b_M_matter 139 = .ok (.getfield 25, 3) := by decide +kernel
theorem d_M_matter_142 : decode b_M_matter 142 = .ok (.invokestatic 300, 3) := by decide +kernel
theorem d_M_matter_145 : decode b_M_matter 145 = .ok (.iinc 5 1, 3) := by decide +kernel
theorem d_M_matter_148 : decode b_M_matter 148 = .ok (.goto (-92), 3) := by decide +kernel
theorem d_M_matter_151 : decode b_M_matter 151 = .ok (.iload 4, 2) := by decide +kernel
theorem d_M_matter_153 : decode b_M_matter 153 = .ok (.ireturn, 1) := by decide +kernel
theorem d_M_swing_0 : decode b_M_swing 0 = .ok (.aload_n 0, 1) := by decide +kernel
theorem d_M_swing_1 : decode b_M_swing 1 = .ok (.iload_n 1, 1) := by decide +kernel
theorem d_M_swing_2 : decode b_M_swing 2 = .ok (.invokevirtual 160, 3) := by decide +kernel
theorem d_M_swing_5 : decode b_M_swing 5 = .ok (.ifCond .eq 12, 3) := by decide +kernel
theorem d_M_swing_8 : decode b_M_swing 8 = .ok (.aload_n 0, 1) := by decide +kernel
theorem d_M_swing_9 : decode b_M_swing 9 = .ok (.iload_n 1, 1) := by decide +kernel
theorem d_M_swing_10 : decode b_M_swing 10 = .ok (.iconst 3, 1) := by decide +kernel
theorem d_M_swing_11 : decode b_M_swing 11 = .ok (.invokevirtual 164, 3) := by decide +kernel
theorem d_M_swing_14 : decode b_M_swing 14 = .ok (.ifCond .ne 6, 3) := by decide +kernel
theorem d_M_swing_17 : decode b_M_swing 17 = .ok (.ldc 167, 2) := by decide +kernel
theorem d_M_swing_19 : decode b_M_swing 19 = .ok (.ireturn, 1) := by decide +kernel
theorem d_M_swing_20 : decode b_M_swing 20 = .ok (.aload_n 0, 1) := by decide +kernel
theorem d_M_swing_21 : decode b_M_swing 21 = .ok (.iconst (-1), 1) := by decide +kernel
theorem d_M_swing_22 : decode b_M_swing 22 = .ok (.aload_n 0, 1) := by decide +kernel
theorem d_M_swing_23 : decode b_M_swing 23 = .ok (.getfield 13, 3) := by decide +kernel
theorem d_M_swing_26 : decode b_M_swing 26 = .ok (.iload_n 1, 1) := by decide +kernel
theorem d_M_swing_27 : decode b_M_swing 27 = .ok (.iaload, 1) := by decide +kernel
theorem d_M_swing_28 : decode b_M_swing 28 = .ok (.invokevirtual 307, 3) := by decide +kernel
theorem d_M_swing_31 : decode b_M_swing 31 = .ok (.istore_n 2, 1) := by decide +kernel
theorem d_M_swing_32 : decode b_M_swing 32 = .ok (.aload_n 0, 1) := by decide +kernel
theorem d_M_swing_33 : decode b_M_swing 33 = .ok (.getfield 25, 3) := by decide +kernel
theorem d_M_swing_36 : decode b_M_swing 36 = .ok (.bipush 71, 2) := by decide +kernel
theorem d_M_swing_38 : decode b_M_swing 38 = .ok (.iload_n 1, 1) := by decide +kernel
theorem d_M_swing_39 : decode b_M_swing 39 = .ok (.iadd, 1) := by decide +kernel
theorem d_M_swing_40 : decode b_M_swing 40 = .ok (.iconst 4, 1) := by decide +kernel
theorem d_M_swing_41 : decode b_M_swing 41 = .ok (.iastore, 1) := by decide +kernel
theorem d_M_swing_42 : decode b_M_swing 42 = .ok (.aload_n 0, 1) := by decide +kernel
theorem d_M_swing_43 : decode b_M_swing 43 = .ok (.iconst (-1), 1) := by decide +kernel
theorem d_M_swing_44 : decode b_M_swing 44 = .ok (.aload_n 0, 1) := by decide +kernel
theorem d_M_swing_45 : decode b_M_swing 45 = .ok (.getfield 13, 3) := by decide +kernel
theorem d_M_swing_48 : decode b_M_swing 48 = .ok (.iload_n 1, 1) := by decide +kernel
theorem d_M_swing_49 : decode b_M_swing 49 = .ok (.iaload, 1) := by decide +kernel
theorem d_M_swing_50 : decode b_M_swing 50 = .ok (.invokevirtual 307, 3) := by decide +kernel
theorem d_M_swing_53 : decode b_M_swing 53 = .ok (.istore_n 3, 1) := by decide +kernel
theorem d_M_swing_54 : decode b_M_swing 54 = .ok (.aload_n 0, 1) := by decide +kernel
theorem d_M_swing_55 : decode b_M_swing 55 = .ok (.getfield 25, 3) := by decide +kernel
theorem d_M_swing_58 : decode b_M_swing 58 = .ok (.bipush 71, 2) := by decide +kernel
theorem d_M_swing_60 : decode b_M_swing 60 = .ok (.iload_n 1, 1) := by decide +kernel
theorem d_M_swing_61 : decode b_M_swing 61 = .ok (.iadd, 1) := by decide +kernel
theorem d_M_swing_62 : decode b_M_swing 62 = .ok (.iconst 3, 1) := by decide +kernel
theorem d_M_swing_63 : decode b_M_swing 63 = .ok (.iastore, 1) := by decide +kernel
theorem d_M_swing_64 : decode b_M_swing 64 = .ok (.iload_n 2, 1) := by decide +kernel
theorem d_M_swing_65 : decode b_M_swing 65 = .ok (.iload_n 3, 1) := by decide +kernel
theorem d_M_swing_66 : decode b_M_swing 66 = .ok (.isub, 1) := by decide +kernel
theorem d_M_swing_67 : decode b_M_swing 67 = .ok (.ireturn, 1) := by decide +kernel
theorem d_M_next_0 : decode b_M_next 0 = .ok (.iload_n 1, 1) := by decide +kernel
theorem d_M_next_1 : decode b_M_next 1 = .ok (.iconst 0, 1) := by decide +kernel
theorem d_M_next_2 : decode b_M_next 2 = .ok (.iconst 1, 1) := by decide +kernel
theorem d_M_next_3 : decode b_M_next 3 = .ok (.invokestatic 73, 3) := by decide +kernel
theorem d_M_next_6 : decode b_M_next 6 = .ok (.ifCond .ne 5, 3) := by decide +kernel
theorem d_M_next_9 : decode b_M_next 9 = .ok (.iconst (-1), 1) := by decide +kernel
theorem d_M_next_10 : decode b_M_next 10 = .ok (.ireturn, 1) := by decide +kernel
theorem d_M_next_11 : decode b_M_next 11 = .ok (.aload_n 0, 1) := by decide +kernel
theorem d_M_next_12 : decode b_M_next 12 = .ok (.iload_n 1, 1) := by decide +kernel
theorem d_M_next_13 : decode b_M_next 13 = .ok (.iconst 0, 1) := by decide +kernel
theorem d_M_next_14 : decode b_M_next 14 = .ok (.invokevirtual 168, 3) := by decide +kernel
theorem d_M_next_17 : decode b_M_next 17 = .ok (.istore_n 2, 1) := by decide +kernel
theorem d_M_next_18 : decode b_M_next 18 = .ok (.iload_n 2, 1) := by decide +kernel
theorem d_M_next_19 : decode b_M_next 19 = .ok (.ifCond .ne 6, 3) := by decide +kernel
theorem d_M_next_22 : decode b_M_next 22 = .ok (.bipush (-2), 2) := by decide +kernel
theorem d_M_next_24 : decode b_M_next 24 = .ok (.ireturn, 1) := by decide +kernel
theorem d_M_next_25 : decode b_M_next 25 = .ok (.aload_n 0, 1) := by decide +kernel
theorem d_M_next_26 : decode b_M_next 26 = .ok (.getfield 25, 3) := by decide +kernel
theorem d_M_next_29 : decode b_M_next 29 = .ok (.iconst 3, 1) := by decide +kernel
theorem d_M_next_30 : decode b_M_next 30 = .ok (.iaload, 1) := by decide +kernel
theorem d_M_next_31 : decode b_M_next 31 = .ok (.istore_n 3, 1) := by decide +kernel
theorem d_M_next_32 : decode b_M_next 32 = .ok (.aload_n 0, 1) := by decide +kernel
theorem d_M_next_33 : decode b_M_next 33 = .ok (.iload_n 2, 1) := by decide +kernel
theorem d_M_next_34 : decode b_M_next 34 = .ok (.invokevirtual 224, 3) := by decide +kernel
theorem d_M_next_37 : decode b_M_next 37 = .ok (.istore 4, 2) := by decide +kernel
theorem d_M_next_39 : decode b_M_next 39 = .ok (.aload_n 0, 1) := by decide +kernel
theorem d_M_next_40 : decode b_M_next 40 = .ok (.getfield 25, 3) := by decide +kernel
theorem d_M_next_43 : decode b_M_next 43 = .ok (.iconst 3, 1) := by decide +kernel
theorem d_M_next_44 : decode b_M_next 44 = .ok (.iload_n 3, 1) := by decide +kernel
theorem d_M_next_45 : decode b_M_next 45 = .ok (.iastore, 1) := by decide +kernel
theorem d_M_next_46 : decode b_M_next 46 = .ok (.bipush (-2), 2) := by decide +kernel
theorem d_M_next_48 : decode b_M_next 48 = .ok (.istore 5, 2) := by decide +kernel
theorem d_M_next_50 : decode b_M_next 50 = .ok (.iconst 0, 1) := by decide +kernel
theorem d_M_next_51 : decode b_M_next 51 = .ok (.istore 6, 2) := by decide +kernel
theorem d_M_next_53 : decode b_M_next 53 = .ok (.iload 6, 2) := by decide +kernel
theorem d_M_next_55 : decode b_M_next 55 = .ok (.aload_n 0, 1) := by decide +kernel
theorem d_M_next_56 : decode b_M_next 56 = .ok (.getfield 70, 3) := by decide +kernel
theorem d_M_next_59 : decode b_M_next 59 = .ok (.if_icmp .ge 47, 3) := by decide +kernel
theorem d_M_next_62 : decode b_M_next 62 = .ok (.aload_n 0, 1) := by decide +kernel
theorem d_M_next_63 : decode b_M_next 63 = .ok (.getfield 13, 3) := by decide +kernel
theorem d_M_next_66 : decode b_M_next 66 = .ok (.iload 6, 2) := by decide +kernel
theorem d_M_next_68 : decode b_M_next 68 = .ok (.iaload, 1) := by decide +kernel
theorem d_M_next_69 : decode b_M_next 69 = .ok (.iload_n 1, 1) := by decide +kernel
theorem d_M_next_70 : decode b_M_next 70 = .ok (.if_icmp .ne 30, 3) := by decide +kernel
theorem d_M_next_73 : decode b_M_next 73 = .ok (.aload_n 0, 1) := by decide +kernel
theorem d_M_next_74 : decode b_M_next 74 = .ok (.iload 6, 2) := by decide +kernel
theorem d_M_next_76 : decode b_M_next 76 = .ok (.iconst 0, 1) := by decide +kernel
theorem d_M_next_77 : decode b_M_next 77 = .ok (.invokevirtual 164, 3) := by decide +kernel
theorem d_M_next_80 : decode b_M_next 80 = .ok (.ifCond .eq 20, 3) := by decide +kernel
theorem d_M_next_83 : decode b_M_next 83 = .ok (.iload 4, 2) := by decide +kernel
theorem d_M_next_85 : decode b_M_next 85 = .ok (.ifCond .ne 8, 3) := by decide +kernel
theorem d_M_next_88 : decode b_M_next 88 = .ok (.iload 6, 2) := by decide +kernel
theorem d_M_next_90 : decode b_M_next 90 = .ok (.goto 5, 3) := by decide +kernel
theorem d_M_next_93 : decode b_M_next 93 = .ok (.iload 5, 2) := by decide +kernel
theorem d_M_next_95 : decode b_M_next 95 = .ok (.istore 5, 2) := by decide +kernel
theorem d_M_next_97 : decode b_M_next 97 = .ok (.iinc 4 (-1), 3) := by decide +kernel
theorem d_M_next_100 : decode b_M_next 100 = .ok (.iinc 6 1, 3) := by decide +kernel
theorem d_M_next_103 : decode b_M_next 103 = .ok (.goto (-50), 3) := by decide +kernel
theorem d_M_next_106 : decode b_M_next 106 = .ok (.iload 5, 2) := by decide +kernel
theorem d_M_next_108 : decode b_M_next 108 = .ok (.ireturn, 1) := by decide +kernel
theorem d_M_ahead_0 : decode b_M_ahead 0 = .ok (.iload_n 1, 1) := by decide +kernel
theorem d_M_ahead_1 : decode b_M_ahead 1 = .ok (.iconst 1, 1) := by decide +kernel
theorem d_M_ahead_2 : decode b_M_ahead 2 = .ok (.bipush 9, 2) := by decide +kernel
theorem d_M_ahead_4 : decode b_M_ahead 4 = .ok (.invokestatic 73, 3) := by decide +kernel
theorem d_M_ahead_7 : decode b_M_ahead 7 = .ok (.ifCond .eq 12, 3) := by decide +kernel
theorem d_M_ahead_10 : decode b_M_ahead 10 = .ok (.iload_n 2, 1) := by decide +kernel
theorem d_M_ahead_11 : decode b_M_ahead 11 = .ok (.iconst 0, 1) := by decide +kernel
theorem d_M_ahead_12 : decode b_M_ahead 12 = .ok (.iconst 4, 1) := by decide +kernel
theorem d_M_ahead_13 : decode b_M_ahead 13 = .ok (.invokestatic 73, 3) := by decide +kernel
theorem d_M_ahead_16 : decode b_M_ahead 16 = .ok (.ifCond .ne 6, 3) := by decide +kernel
theorem d_M_ahead_19 : decode b_M_ahead 19 = .ok (.ldc 167, 2) := by decide +kernel
theorem d_M_ahead_21 : decode b_M_ahead 21 = .ok (.ireturn, 1) := by decide +kernel
theorem d_M_ahead_22 : decode b_M_ahead 22 = .ok (.aload_n 0, 1) := by decide +kernel
theorem d_M_ahead_23 : decode b_M_ahead 23 = .ok (.getfield 25, 3) := by decide +kernel
theorem d_M_ahead_26 : decode b_M_ahead 26 = .ok (.aload_n 0, 1) := by decide +kernel
theorem d_M_ahead_27 : decode b_M_ahead 27 = .ok (.getfield 30, 3) := by decide +kernel
theorem d_M_ahead_30 : decode b_M_ahead 30 = .ok (.iconst 0, 1) := by decide +kernel
theorem d_M_ahead_31 : decode b_M_ahead 31 = .ok (.aaload, 1) := by decide +kernel
theorem d_M_ahead_32 : decode b_M_ahead 32 = .ok (.invokestatic 300, 3) := by decide +kernel
theorem d_M_ahead_35 : decode b_M_ahead 35 = .ok (.iconst 0, 1) := by decide +kernel
theorem d_M_ahead_36 : decode b_M_ahead 36 = .ok (.istore_n 3, 1) := by decide +kernel
theorem d_M_ahead_37 : decode b_M_ahead 37 = .ok (.iload_n 3, 1) := by decide +kernel
theorem d_M_ahead_38 : decode b_M_ahead 38 = .ok (.iload_n 1, 1) := by decide +kernel
theorem d_M_ahead_39 : decode b_M_ahead 39 = .ok (.if_icmp .ge 35, 3) := by decide +kernel
theorem d_M_ahead_42 : decode b_M_ahead 42 = .ok (.aload_n 0, 1) := by decide +kernel
theorem d_M_ahead_43 : decode b_M_ahead 43 = .ok (.getfield 25, 3) := by decide +kernel
theorem d_M_ahead_46 : decode b_M_ahead 46 = .ok (.bipush 6, 2) := by decide +kernel
theorem d_M_ahead_48 : decode b_M_ahead 48 = .ok (.iaload, 1) := by decide +kernel
theorem d_M_ahead_49 : decode b_M_ahead 49 = .ok (.ifCond .ne 25, 3) := by decide +kernel
theorem d_M_ahead_52 : decode b_M_ahead 52 = .ok (.aload_n 0, 1) := by decide +kernel
theorem d_M_ahead_53 : decode b_M_ahead 53 = .ok (.invokevirtual 275, 3) := by decide +kernel
theorem d_M_ahead_56 : decode b_M_ahead 56 = .ok (.ifCond .ne 18, 3) := by decide +kernel
theorem d_M_ahead_59 : decode b_M_ahead 59 = .ok (.aload_n 0, 1) := by decide +kernel
theorem d_M_ahead_60 : decode b_M_ahead 60 = .ok (.invokevirtual 294, 3) := by decide +kernel
theorem d_M_ahead_63 : decode b_M_ahead 63 = .ok (.aload_n 0, 1) := by decide +kernel
theorem d_M_ahead_64 : decode b_M_ahead 64 = .ok (.invokevirtual 288, 3) := by decide +kernel
theorem d_M_ahead_67 : decode b_M_ahead 67 = .ok (.pop, 1) := by decide +kernel
theorem d_M_ahead_68 : decode b_M_ahead 68 = .ok (.iinc 3 1, 3) := by decide +kernel
theorem d_M_ahead_71 : decode b_M_ahead 71 = .ok (.goto (-34), 3) := by decide +kernel
theorem d_M_ahead_74 : decode b_M_ahead 74 = .ok (.iload_n 2, 1) := by decide +kernel
theorem d_M_ahead_75 : decode b_M_ahead 75 = .ok (.ifCond .ne 7, 3) := by decide +kernel
theorem d_M_ahead_78 : decode b_M_ahead 78 = .ok (.iload_n 3, 1) := by decide +kernel
theorem d_M_ahead_79 : decode b_M_ahead 79 = .ok (.goto 29, 3) := by decide +kernel
theorem d_M_ahead_82 : decode b_M_ahead 82 = .ok (.iload_n 2, 1) := by decide +kernel
theorem d_M_ahead_83 : decode b_M_ahead 83 = .ok (.iconst 3, 1) := by decide +kernel
theorem d_M_ahead_84 : decode b_M_ahead 84 = .ok (.if_icmp .ge 16, 3) := by decide +kernel
theorem d_M_ahead_87 : decode b_M_ahead 87 = .ok (.aload_n 0, 1) := by decide +kernel
theorem d_M_ahead_88 : decode b_M_ahead 88 = .ok (.getfield 25, 3) := by decide +kernel
theorem d_M_ahead_91 : decode b_M_ahead 91 = .ok (.iconst 0, 1) := by decide +kernel
theorem d_M_ahead_92 : decode b_M_ahead 92 = .ok (.iload_n 2, 1) := by decide +kernel
theorem d_M_ahead_93 : decode b_M_ahead 93 = .ok (.iadd, 1) := by decide +kernel
theorem d_M_ahead_94 : decode b_M_ahead 94 = .ok (.iconst 1, 1) := by decide +kernel
theorem d_M_ahead_95 : decode b_M_ahead 95 = .ok (.isub, 1) := by decide +kernel
theorem d_M_ahead_96 : decode b_M_ahead 96 = .ok (.iaload, 1) := by decide +kernel
theorem d_M_ahead_97 : decode b_M_ahead 97 = .ok (.goto 11, 3) := by decide +kernel
theorem d_M_ahead_100 : decode b_M_ahead 100 = .ok (.aload_n 0, 1) := by decide +kernel
theorem d_M_ahead_101 : decode b_M_ahead 101 = .ok (.iload_n 2, 1) := by decide +kernel
theorem d_M_ahead_102 : decode b_M_ahead 102 = .ok (.iconst 3, 1) := by decide +kernel
theorem d_M_ahead_103 : decode b_M_ahead 103 = .ok (.isub, 1) := by decide +kernel
theorem d_M_ahead_104 : decode b_M_ahead 104 = .ok (.iconst 1, 1) := by decide +kernel
theorem d_M_ahead_105 : decode b_M_ahead 105 = .ok (.invokevirtual 168, 3) := by decide +kernel
theorem d_M_ahead_108 : decode b_M_ahead 108 = .ok (.istore 4, 2) := by decide +kernel
theorem d_M_ahead_110 : decode b_M_ahead 110 = .ok (.aload_n 0, 1) := by decide +kernel
theorem d_M_ahead_111 : decode b_M_ahead 111 = .ok (.getfield 30, 3) := by decide +kernel
theorem d_M_ahead_114 : decode b_M_ahead 114 = .ok (.iconst 0, 1) := by decide +kernel
theorem d_M_ahead_115 : decode b_M_ahead 115 = .ok (.aaload, 1) := by decide +kernel
theorem d_M_ahead_116 : decode b_M_ahead 116 = .ok (.aload_n 0, 1) := by decide +kernel
theorem d_M_ahead_117 : decode b_M_ahead 117 = .ok (.getfield 25, 3) := by decide +kernel
theorem d_M_ahead_120 : decode b_M_ahead 120 = .ok (.invokestatic 300, 3) := by decide +kernel
theorem d_M_ahead_123 : decode b_M_ahead 123 = .ok (.iload 4, 2) := by decide +kernel
theorem d_M_ahead_125 : decode b_M_ahead 125 = .ok (.ireturn, 1) := by decide +kernel
theorem d_M_trace_0 : decode b_M_trace 0 = .ok (.iload_n 1, 1) := by decide +kernel
theorem d_M_trace_1 : decode b_M_trace 1 = .ok (.iconst 0, 1) := by decide +kernel
theorem d_M_trace_2 : decode b_M_trace 2 = .ok (.iconst 1, 1) := by decide +kernel
theorem d_M_trace_3 : decode b_M_trace 3 = .ok (.invokestatic 73, 3) := by decide +kernel
theorem d_M_trace_6 : decode b_M_trace 6 = .ok (.ifCond .eq 7, 3) := by decide +kernel
theorem d_M_trace_9 : decode b_M_trace 9 = .ok (.iload_n 2, 1) := by decide +kernel
theorem d_M_trace_10 : decode b_M_trace 10 = .ok (.ifCond .ge 5, 3) := by decide +kernel
theorem d_M_trace_13 : decode b_M_trace 13 = .ok (.iconst (-1), 1) := by decide +kernel
theorem d_M_trace_14 : decode b_M_trace 14 = .ok (.ireturn, 1) := by decide +kernel
theorem d_M_trace_15 : decode b_M_trace 15 = .ok (.iload_n 1, 1) := by decide +kernel
theorem d_M_trace_16 : decode b_M_trace 16 = .ok (.ifCond .ne 10, 3) := by decide +kernel
theorem d_M_trace_19 : decode b_M_trace 19 = .ok (.aload_n 0, 1) := by decide +kernel
theorem d_M_trace_20 : decode b_M_trace 20 = .ok (.getfield 257, 3) := by decide +kernel
theorem d_M_trace_23 : decode b_M_trace 23 = .ok (.goto 7, 3) := by decide +kernel
theorem d_M_trace_26 : decode b_M_trace 26 = .ok (.aload_n 0, 1) := by decide +kernel
theorem d_M_trace_27 : decode b_M_trace 27 = .ok (.getfield 238, 3) := by decide +kernel
theorem d_M_trace_30 : decode b_M_trace 30 = .ok (.istore_n 3, 1) := by decide +kernel
theorem d_M_trace_31 : decode b_M_trace 31 = .ok (.iload_n 2, 1) := by decide +kernel
theorem d_M_trace_32 : decode b_M_trace 32 = .ok (.iload_n 3, 1) := by decide +kernel
theorem d_M_trace_33 : decode b_M_trace 33 = .ok (.if_icmp .lt 8, 3) := by decide +kernel
theorem d_M_trace_36 : decode b_M_trace 36 = .ok (.bipush (-2), 2) := by decide +kernel
theorem d_M_trace_38 : decode b_M_trace 38 = .ok (.goto 22, 3) := by decide +kernel
theorem d_M_trace_41 : decode b_M_trace 41 = .ok (.iload_n 1, 1) := by decide +kernel
theorem d_M_trace_42 : decode b_M_trace 42 = .ok (.ifCond .ne 12, 3) := by decide +kernel
theorem d_M_trace_45 : decode b_M_trace 45 = .ok (.aload_n 0, 1) := by decide +kernel
theorem d_M_trace_46 : decode b_M_trace 46 = .ok (.getfield 64, 3) := by decide +kernel
theorem d_M_trace_49 : decode b_M_trace 49 = .ok (.iload_n 2, 1) := by decide +kernel
theorem d_M_trace_50 : decode b_M_trace 50 = .ok (.iaload, 1) := by decide +kernel
theorem d_M_trace_51 : decode b_M_trace 51 = .ok (.goto 9, 3) := by decide +kernel
theorem d_M_trace_54 : decode b_M_trace 54 = .ok (.aload_n 0, 1) := by decide +kernel
theorem d_M_trace_55 : decode b_M_trace 55 = .ok (.getfield 67, 3) := by decide +kernel
theorem d_M_trace_58 : decode b_M_trace 58 = .ok (.iload_n 2, 1) := by decide +kernel
theorem d_M_trace_59 : decode b_M_trace 59 = .ok (.iaload, 1) := by decide +kernel
theorem d_M_trace_60 : decode b_M_trace 60 = .ok (.ireturn, 1) := by decide +kernel
theorem d_M_byTurns_0 : decode b_M_byTurns 0 = .ok (.iload_n 1, 1) := by decide +kernel
theorem d_M_byTurns_1 : decode b_M_byTurns 1 = .ok (.iconst 1, 1) := by decide +kernel
theorem d_M_byTurns_2 : decode b_M_byTurns 2 = .ok (.iconst 3, 1) := by decide +kernel
theorem d_M_byTurns_3 : decode b_M_byTurns 3 = .ok (.invokestatic 73, 3) := by decide +kernel
theorem d_M_byTurns_6 : decode b_M_byTurns 6 = .ok (.ifCond .eq 24, 3) := by decide +kernel
theorem d_M_byTurns_9 : decode b_M_byTurns 9 = .ok (.aload_n 0, 1) := by decide +kernel
theorem d_M_byTurns_10 : decode b_M_byTurns 10 = .ok (.iconst 1, 1) := by decide +kernel
theorem d_M_byTurns_11 : decode b_M_byTurns 11 = .ok (.iload_n 1, 1) := by decide +kernel
theorem d_M_byTurns_12 : decode b_M_byTurns 12 = .ok (.aload_n 0, 1) := by decide +kernel
theorem d_M_byTurns_13 : decode b_M_byTurns 13 = .ok (.getfield 25, 3) := by decide +kernel
theorem d_M_byTurns_16 : decode b_M_byTurns 16 = .ok (.iconst 4, 1) := by decide +kernel
theorem d_M_byTurns_17 : decode b_M_byTurns 17 = .ok (.iaload, 1) := by decide +kernel
theorem d_M_byTurns_18 : decode b_M_byTurns 18 = .ok (.aload_n 0, 1) := by decide +kernel
theorem d_M_byTurns_19 : decode b_M_byTurns 19 = .ok (.getfield 25, 3) := by decide +kernel
theorem d_M_byTurns_22 : decode b_M_byTurns 22 = .ok (.iconst 4, 1) := by decide +kernel
theorem d_M_byTurns_23 : decode b_M_byTurns 23 = .ok (.iaload, 1) := by decide +kernel
theorem d_M_byTurns_24 : decode b_M_byTurns 24 = .ok (.invokevirtual 310, 3) := by decide +kernel
theorem d_M_byTurns_27 : decode b_M_byTurns 27 = .ok (.goto 5, 3) := by decide +kernel
theorem d_M_byTurns_30 : decode b_M_byTurns 30 = .ok (.ldc 167, 2) := by decide +kernel
theorem d_M_byTurns_32 : decode b_M_byTurns 32 = .ok (.ireturn, 1) := by decide +kernel
theorem d_M_seed_0 : decode b_M_seed 0 = .ok (.aload_n 0, 1) := by decide +kernel
theorem d_M_seed_1 : decode b_M_seed 1 = .ok (.getfield 25, 3) := by decide +kernel
theorem d_M_seed_4 : decode b_M_seed 4 = .ok (.iconst 3, 1) := by decide +kernel
theorem d_M_seed_5 : decode b_M_seed 5 = .ok (.iaload, 1) := by decide +kernel
theorem d_M_seed_6 : decode b_M_seed 6 = .ok (.istore_n 2, 1) := by decide +kernel
theorem d_M_seed_7 : decode b_M_seed 7 = .ok (.aload_n 0, 1) := by decide +kernel
theorem d_M_seed_8 : decode b_M_seed 8 = .ok (.getfield 25, 3) := by decide +kernel
theorem d_M_seed_11 : decode b_M_seed 11 = .ok (.iconst 3, 1) := by decide +kernel
theorem d_M_seed_12 : decode b_M_seed 12 = .ok (.iload_n 1, 1) := by decide +kernel
theorem d_M_seed_13 : decode b_M_seed 13 = .ok (.iastore, 1) := by decide +kernel
theorem d_M_seed_14 : decode b_M_seed 14 = .ok (.iload_n 2, 1) := by decide +kernel
theorem d_M_seed_15 : decode b_M_seed 15 = .ok (.ireturn, 1) := by decide +kernel
theorem d_M_image_0 : decode b_M_image 0 = .ok (.aload_n 0, 1) := by decide +kernel
theorem d_M_image_1 : decode b_M_image 1 = .ok (.getfield 25, 3) := by decide +kernel
theorem d_M_image_4 : decode b_M_image 4 = .ok (.aload_n 0, 1) := by decide +kernel
theorem d_M_image_5 : decode b_M_image 5 = .ok (.getfield 33, 3) := by decide +kernel
theorem d_M_image_8 : decode b_M_image 8 = .ok (.invokestatic 300, 3) := by decide +kernel
theorem d_M_image_11 : decode b_M_image 11 = .ok (.aload_n 0, 1) := by decide +kernel
theorem d_M_image_12 : decode b_M_image 12 = .ok (.aload_n 0, 1) := by decide +kernel
theorem d_M_image_13 : decode b_M_image 13 = .ok (.getfield 70, 3) := by decide +kernel
theorem d_M_image_16 : decode b_M_image 16 = .ok (.putfield 36, 3) := by decide +kernel
theorem d_M_image_19 : decode b_M_image 19 = .ok (.aload_n 0, 1) := by decide +kernel
theorem d_M_image_20 : decode b_M_image 20 = .ok (.getfield 70, 3) := by decide +kernel
theorem d_M_image_23 : decode b_M_image 23 = .ok (.ireturn, 1) := by decide +kernel
theorem d_M_back_0 : decode b_M_back 0 = .ok (.aload_n 0, 1) := by decide +kernel
theorem d_M_back_1 : decode b_M_back 1 = .ok (.getfield 36, 3) := by decide +kernel
theorem d_M_back_4 : decode b_M_back 4 = .ok (.ifCond .ge 6, 3) := by decide +kernel
theorem d_M_back_7 : decode b_M_back 7 = .ok (.bipush (-5), 2) := by decide +kernel
theorem d_M_back_9 : decode b_M_back 9 = .ok (.ireturn, 1) := by decide +kernel
theorem d_M_back_10 : decode b_M_back 10 = .ok (.aload_n 0, 1) := by decide +kernel
theorem d_M_back_11 : decode b_M_back 11 = .ok (.getfield 33, 3) := by decide +kernel
theorem d_M_back_14 : decode b_M_back 14 = .ok (.aload_n 0, 1) := by decide +kernel
theorem d_M_back_15 : decode b_M_back 15 = .ok (.getfield 25, 3) := by decide +kernel
theorem d_M_back_18 : decode b_M_back 18 = .ok (.invokestatic 300, 3) := by decide +kernel
theorem d_M_back_21 : decode b_M_back 21 = .ok (.aload_n 0, 1) := by decide +kernel
theorem d_M_back_22 : decode b_M_back 22 = .ok (.aload_n 0, 1) := by decide +kernel
theorem d_M_back_23 : decode b_M_back 23 = .ok (.getfield 36, 3) := by decide +kernel
theorem d_M_back_26 : decode b_M_back 26 = .ok (.putfield 70, 3) := by decide +kernel
theorem d_M_back_29 : decode b_M_back 29 = .ok (.iconst 0, 1) := by decide +kernel
theorem d_M_back_30 : decode b_M_back 30 = .ok (.istore_n 1, 1) := by decide +kernel
theorem d_M_back_31 : decode b_M_back 31 = .ok (.iload_n 1, 1) := by decide +kernel
theorem d_M_back_32 : decode b_M_back 32 = .ok (.bipush 8, 2) := by decide +kernel
theorem d_M_back_34 : decode b_M_back 34 = .ok (.if_icmp .ge 38, 3) := by decide +kernel
theorem d_M_back_37 : decode b_M_back 37 = .ok (.aload_n 0, 1) := by decide +kernel
theorem d_M_back_38 : decode b_M_back 38 = .ok (.getfield 55, 3) := by decide +kernel
theorem d_M_back_41 : decode b_M_back 41 = .ok (.iload_n 1, 1) := by decide +kernel
theorem d_M_back_42 : decode b_M_back 42 = .ok (.aload_n 0, 1) := by decide +kernel
theorem d_M_back_43 : decode b_M_back 43 = .ok (.getfield 55, 3) := by decide +kernel
theorem d_M_back_46 : decode b_M_back 46 = .ok (.iload_n 1, 1) := by decide +kernel
theorem d_M_back_47 : decode b_M_back 47 = .ok (.iaload, 1) := by decide +kernel
theorem d_M_back_48 : decode b_M_back 48 = .ok (.aload_n 0, 1) := by decide +kernel
theorem d_M_back_49 : decode b_M_back 49 = .ok (.getfield 70, 3) := by decide +kernel
theorem d_M_back_52 : decode b_M_back 52 = .ok (.if_icmp .lt 7, 3) := by decide +kernel
theorem d_M_back_55 : decode b_M_back 55 = .ok (.iconst (-1), 1) := by decide +kernel
theorem d_M_back_56 : decode b_M_back 56 = .ok (.goto 9, 3) := by decide +kernel
theorem d_M_back_59 : decode b_M_back 59 = .ok (.aload_n 0, 1) := by decide +kernel
theorem d_M_back_60 : decode b_M_back 60 = .ok (.getfield 55, 3) := by decide +kernel
theorem d_M_back_63 : decode b_M_back 63 = .ok (.iload_n 1, 1) := by decide +kernel
theorem d_M_back_64 : decode b_M_back 64 = .ok (.iaload, 1) := by decide +kernel
theorem d_M_back_65 : decode b_M_back 65 = .ok (.iastore, 1) := by decide +kernel
theorem d_M_back_66 : decode b_M_back 66 = .ok (.iinc 1 1, 3) := by decide +kernel
theorem d_M_back_69 : decode b_M_back 69 = .ok (.goto (-38), 3) := by decide +kernel
theorem d_M_back_72 : decode b_M_back 72 = .ok (.aload_n 0, 1) := by decide +kernel
theorem d_M_back_73 : decode b_M_back 73 = .ok (.getfield 70, 3) := by decide +kernel
theorem d_M_back_76 : decode b_M_back 76 = .ok (.ireturn, 1) := by decide +kernel
theorem d_M_hold_0 : decode b_M_hold 0 = .ok (.iload_n 1, 1) := by decide +kernel
theorem d_M_hold_1 : decode b_M_hold 1 = .ok (.iconst 0, 1) := by decide +kernel
theorem d_M_hold_2 : decode b_M_hold 2 = .ok (.bipush 7, 2) := by decide +kernel
theorem d_M_hold_4 : decode b_M_hold 4 = .ok (.invokestatic 73, 3) := by decide +kernel
theorem d_M_hold_7 : decode b_M_hold 7 = .ok (.ifCond .eq 16, 3) := by decide +kernel
theorem d_M_hold_10 : decode b_M_hold 10 = .ok (.iload_n 2, 1) := by decide +kernel
theorem d_M_hold_11 : decode b_M_hold 11 = .ok (.iconst (-1), 1) := by decide +kernel
theorem d_M_hold_12 : decode b_M_hold 12 = .ok (.if_icmp .eq 13, 3) := by decide +kernel
theorem d_M_hold_15 : decode b_M_hold 15 = .ok (.aload_n 0, 1) := by decide +kernel
theorem d_M_hold_16 : decode b_M_hold 16 = .ok (.iload_n 2, 1) := by decide +kernel
theorem d_M_hold_17 : decode b_M_hold 17 = .ok (.invokevirtual 160, 3) := by decide +kernel
theorem d_M_hold_20 : decode b_M_hold 20 = .ok (.ifCond .ne 5, 3) := by decide +kernel
theorem d_M_hold_23 : decode b_M_hold 23 = .ok (.iconst (-1), 1) := by decide +kernel
theorem d_M_hold_24 : decode b_M_hold 24 = .ok (.ireturn, 1) := by decide +kernel
theorem d_M_hold_25 : decode b_M_hold 25 = .ok (.aload_n 0, 1) := by decide +kernel
theorem d_M_hold_26 : decode b_M_hold 26 = .ok (.getfield 55, 3) := by decide +kernel
theorem d_M_hold_29 : decode b_M_hold 29 = .ok (.iload_n 1, 1) := by decide +kernel
theorem d_M_hold_30 : decode b_M_hold 30 = .ok (.iload_n 2, 1) := by decide +kernel
theorem d_M_hold_31 : decode b_M_hold 31 = .ok (.iastore, 1) := by decide +kernel
theorem d_M_hold_32 : decode b_M_hold 32 = .ok (.iconst 1, 1) := by decide +kernel
theorem d_M_hold_33 : decode b_M_hold 33 = .ok (.ireturn, 1) := by decide +kernel
theorem d_M_familyOf_0 : decode b_M_familyOf 0 = .ok (.iload_n 0, 1) := by decide +kernel
theorem d_M_familyOf_1 : decode b_M_familyOf 1 = .ok (.iconst 4, 1) := by decide +kernel
theorem d_M_familyOf_2 : decode b_M_familyOf 2 = .ok (.if_icmp .gt 7, 3) := by decide +kernel
theorem d_M_familyOf_5 : decode b_M_familyOf 5 = .ok (.iconst 1, 1) := by decide +kernel
theorem d_M_familyOf_6 : decode b_M_familyOf 6 = .ok (.goto 24, 3) := by decide +kernel
theorem d_M_familyOf_9 : decode b_M_familyOf 9 = .ok (.iload_n 0, 1) := by decide +kernel
theorem d_M_familyOf_10 : decode b_M_familyOf 10 = .ok (.bipush 8, 2) := by decide +kernel
theorem d_M_familyOf_12 : decode b_M_familyOf 12 = .ok (.if_icmp .gt 7, 3) := by decide +kernel
theorem d_M_familyOf_15 : decode b_M_familyOf 15 = .ok (.iconst 2, 1) := by decide +kernel
theorem d_M_familyOf_16 : decode b_M_familyOf 16 = .ok (.goto 14, 3) := by decide +kernel
theorem d_M_familyOf_19 : decode b_M_familyOf 19 = .ok (.iload_n 0, 1) := by decide +kernel
theorem d_M_familyOf_20 : decode b_M_familyOf 20 = .ok (.bipush 13, 2) := by decide +kernel
theorem d_M_familyOf_22 : decode b_M_familyOf 22 = .ok (.if_icmp .gt 7, 3) := by decide +kernel
theorem d_M_familyOf_25 : decode b_M_familyOf 25 = .ok (.iconst 3, 1) := by decide +kernel
theorem d_M_familyOf_26 : decode b_M_familyOf 26 = .ok (.goto 4, 3) := by decide +kernel
theorem d_M_familyOf_29 : decode b_M_familyOf 29 = .ok (.iconst 4, 1) := by decide +kernel
theorem d_M_familyOf_30 : decode b_M_familyOf 30 = .ok (.ireturn, 1) := by decide +kernel
theorem d_M_toldBy_0 : decode b_M_toldBy 0 = .ok (.aload_n 0, 1) := by decide +kernel
theorem d_M_toldBy_1 : decode b_M_toldBy 1 = .ok (.getfield 22, 3) := by decide +kernel
theorem d_M_toldBy_4 : decode b_M_toldBy 4 = .ok (.iload_n 1, 1) := by decide +kernel
theorem d_M_toldBy_5 : decode b_M_toldBy 5 = .ok (.iaload, 1) := by decide +kernel
theorem d_M_toldBy_6 : decode b_M_toldBy 6 = .ok (.istore_n 2, 1) := by decide +kernel
theorem d_M_toldBy_7 : decode b_M_toldBy 7 = .ok (.aload_n 0, 1) := by decide +kernel
theorem d_M_toldBy_8 : decode b_M_toldBy 8 = .ok (.getfield 9, 3) := by decide +kernel
theorem d_M_toldBy_11 : decode b_M_toldBy 11 = .ok (.iload_n 1, 1) := by decide +kernel
theorem d_M_toldBy_12 : decode b_M_toldBy 12 = .ok (.iaload, 1) := by decide +kernel
theorem d_M_toldBy_13 : decode b_M_toldBy 13 = .ok (.tableswitch 120 0 14 #[75, 80, 85, 87, 90, 93, 101, 96, 101, 120, 120, 120, 120, 120, 104], 75) := by decide +kernel
theorem d_M_toldBy_88 : decode b_M_toldBy 88 = .ok (.bipush 10, 2) := by decide +kernel
theorem d_M_toldBy_90 : decode b_M_toldBy 90 = .ok (.iload_n 2, 1) := by decide +kernel
theorem d_M_toldBy_91 : decode b_M_toldBy 91 = .ok (.iadd, 1) := by decide +kernel
theorem d_M_toldBy_92 : decode b_M_toldBy 92 = .ok (.ireturn, 1) := by decide +kernel
theorem d_M_toldBy_93 : decode b_M_toldBy 93 = .ok (.bipush 10, 2) := by decide +kernel
theorem d_M_toldBy_95 : decode b_M_toldBy 95 = .ok (.iload_n 2, 1) := by decide +kernel
theorem d_M_toldBy_96 : decode b_M_toldBy 96 = .ok (.imul, 1) := by decide +kernel
theorem d_M_toldBy_97 : decode b_M_toldBy 97 = .ok (.ireturn, 1) := by decide +kernel
theorem d_M_toldBy_98 : decode b_M_toldBy 98 = .ok (.iload_n 2, 1) := by decide +kernel
theorem d_M_toldBy_99 : decode b_M_toldBy 99 = .ok (.ireturn, 1) := by decide +kernel
theorem d_M_toldBy_100 : decode b_M_toldBy 100 = .ok (.bipush 20, 2) := by decide +kernel
theorem d_M_toldBy_102 : decode b_M_toldBy 102 = .ok (.ireturn, 1) := by decide +kernel
theorem d_M_toldBy_103 : decode b_M_toldBy 103 = .ok (.bipush 30, 2) := by decide +kernel
theorem d_M_toldBy_105 : decode b_M_toldBy 105 = .ok (.ireturn, 1) := by decide +kernel
theorem d_M_toldBy_106 : decode b_M_toldBy 106 = .ok (.bipush 20, 2) := by decide +kernel
theorem d_M_toldBy_108 : decode b_M_toldBy 108 = .ok (.ireturn, 1) := by decide +kernel
theorem d_M_toldBy_109 : decode b_M_toldBy 109 = .ok (.bipush 10, 2) := by decide +kernel
theorem d_M_toldBy_111 : decode b_M_toldBy 111 = .ok (.iload_n 2, 1) := by decide +kernel
theorem d_M_toldBy_112 : decode b_M_toldBy 112 = .ok (.isub, 1) := by decide +kernel
theorem d_M_toldBy_113 : decode b_M_toldBy 113 = .ok (.ireturn, 1) := by decide +kernel
theorem d_M_toldBy_114 : decode b_M_toldBy 114 = .ok (.bipush 10, 2) := by decide +kernel
theorem d_M_toldBy_116 : decode b_M_toldBy 116 = .ok (.ireturn, 1) := by decide +kernel
theorem d_M_toldBy_117 : decode b_M_toldBy 117 = .ok (.iconst 4, 1) := by decide +kernel
theorem d_M_toldBy_118 : decode b_M_toldBy 118 = .ok (.aload_n 0, 1) := by decide +kernel
theorem d_M_toldBy_119 : decode b_M_toldBy 119 = .ok (.getfield 16, 3) := by decide +kernel
theorem d_M_toldBy_122 : decode b_M_toldBy 122 = .ok (.iload_n 1, 1) := by decide +kernel
theorem d_M_toldBy_123 : decode b_M_toldBy 123 = .ok (.iaload, 1) := by decide +kernel
theorem d_M_toldBy_124 : decode b_M_toldBy 124 = .ok (.imul, 1) := by decide +kernel
theorem d_M_toldBy_125 : decode b_M_toldBy 125 = .ok (.aload_n 0, 1) := by decide +kernel
theorem d_M_toldBy_126 : decode b_M_toldBy 126 = .ok (.getfield 19, 3) := by decide +kernel
theorem d_M_toldBy_129 : decode b_M_toldBy 129 = .ok (.iload_n 1, 1) := by decide +kernel
theorem d_M_toldBy_130 : decode b_M_toldBy 130 = .ok (.iaload, 1) := by decide +kernel
theorem d_M_toldBy_131 : decode b_M_toldBy 131 = .ok (.iadd, 1) := by decide +kernel
theorem d_M_toldBy_132 : decode b_M_toldBy 132 = .ok (.ireturn, 1) := by decide +kernel
theorem d_M_toldBy_133 : decode b_M_toldBy 133 = .ok (.iload_n 2, 1) := by decide +kernel
theorem d_M_toldBy_134 : decode b_M_toldBy 134 = .ok (.ireturn, 1) := by decide +kernel
theorem d_M_tells_0 : decode b_M_tells 0 = .ok (.iload_n 1, 1) := by decide +kernel
theorem d_M_tells_1 : decode b_M_tells 1 = .ok (.iconst 0, 1) := by decide +kernel
theorem d_M_tells_2 : decode b_M_tells 2 = .ok (.bipush 7, 2) := by decide +kernel
theorem d_M_tells_4 : decode b_M_tells 4 = .ok (.invokestatic 73, 3) := by decide +kernel
theorem d_M_tells_7 : decode b_M_tells 7 = .ok (.ifCond .eq 12, 3) := by decide +kernel
theorem d_M_tells_10 : decode b_M_tells 10 = .ok (.iload_n 2, 1) := by decide +kernel
theorem d_M_tells_11 : decode b_M_tells 11 = .ok (.iconst 0, 1) := by decide +kernel
theorem d_M_tells_12 : decode b_M_tells 12 = .ok (.iconst 4, 1) := by decide +kernel
theorem d_M_tells_13 : decode b_M_tells 13 = .ok (.invokestatic 73, 3) := by decide +kernel
theorem d_M_tells_16 : decode b_M_tells 16 = .ok (.ifCond .ne 5, 3) := by decide +kernel
theorem d_M_tells_19 : decode b_M_tells 19 = .ok (.iconst (-1), 1) := by decide +kernel
theorem d_M_tells_20 : decode b_M_tells 20 = .ok (.ireturn, 1) := by decide +kernel
theorem d_M_tells_21 : decode b_M_tells 21 = .ok (.aload_n 0, 1) := by decide +kernel
theorem d_M_tells_22 : decode b_M_tells 22 = .ok (.getfield 55, 3) := by decide +kernel
theorem d_M_tells_25 : decode b_M_tells 25 = .ok (.iload_n 1, 1) := by decide +kernel
theorem d_M_tells_26 : decode b_M_tells 26 = .ok (.iaload, 1) := by decide +kernel
theorem d_M_tells_27 : decode b_M_tells 27 = .ok (.istore_n 3, 1) := by decide +kernel
theorem d_M_tells_28 : decode b_M_tells 28 = .ok (.iload_n 3, 1) := by decide +kernel
theorem d_M_tells_29 : decode b_M_tells 29 = .ok (.ifCond .ge 6, 3) := by decide +kernel
theorem d_M_tells_32 : decode b_M_tells 32 = .ok (.bipush (-11), 2) := by decide +kernel
theorem d_M_tells_34 : decode b_M_tells 34 = .ok (.ireturn, 1) := by decide +kernel
theorem d_M_tells_35 : decode b_M_tells 35 = .ok (.iload_n 2, 1) := by decide +kernel
theorem d_M_tells_36 : decode b_M_tells 36 = .ok (.ifCond .eq 19, 3) := by decide +kernel
theorem d_M_tells_39 : decode b_M_tells 39 = .ok (.aload_n 0, 1) := by decide +kernel
theorem d_M_tells_40 : decode b_M_tells 40 = .ok (.getfield 9, 3) := by decide +kernel
theorem d_M_tells_43 : decode b_M_tells 43 = .ok (.iload_n 3, 1) := by decide +kernel
theorem d_M_tells_44 : decode b_M_tells 44 = .ok (.iaload, 1) := by decide +kernel
theorem d_M_tells_45 : decode b_M_tells 45 = .ok (.invokestatic 314, 3) := by decide +kernel
theorem d_M_tells_48 : decode b_M_tells 48 = .ok (.iload_n 2, 1) := by decide +kernel
theorem d_M_tells_49 : decode b_M_tells 49 = .ok (.if_icmp .eq 6, 3) := by decide +kernel
theorem d_M_tells_52 : decode b_M_tells 52 = .ok (.bipush (-12), 2) := by decide +kernel
theorem d_M_tells_54 : decode b_M_tells 54 = .ok (.ireturn, 1) := by decide +kernel
theorem d_M_tells_55 : decode b_M_tells 55 = .ok (.bipush 100, 2) := by decide +kernel
theorem d_M_tells_57 : decode b_M_tells 57 = .ok (.iload_n 2, 1) := by decide +kernel
theorem d_M_tells_58 : decode b_M_tells 58 = .ok (.ifCond .ne 12, 3) := by decide +kernel
theorem d_M_tells_61 : decode b_M_tells 61 = .ok (.aload_n 0, 1) := by decide +kernel
theorem d_M_tells_62 : decode b_M_tells 62 = .ok (.getfield 9, 3) := by decide +kernel
theorem d_M_tells_65 : decode b_M_tells 65 = .ok (.iload_n 3, 1) := by decide +kernel
theorem d_M_tells_66 : decode b_M_tells 66 = .ok (.iaload, 1) := by decide +kernel
theorem d_M_tells_67 : decode b_M_tells 67 = .ok (.goto 8, 3) := by decide +kernel
theorem d_M_tells_70 : decode b_M_tells 70 = .ok (.aload_n 0, 1) := by decide +kernel
theorem d_M_tells_71 : decode b_M_tells 71 = .ok (.iload_n 3, 1) := by decide +kernel
theorem d_M_tells_72 : decode b_M_tells 72 = .ok (.invokevirtual 317, 3) := by decide +kernel
theorem d_M_tells_75 : decode b_M_tells 75 = .ok (.iadd, 1) := by decide +kernel
theorem d_M_tells_76 : decode b_M_tells 76 = .ok (.ireturn, 1) := by decide +kernel
theorem d_M_count_0 : decode b_M_count 0 = .ok (.iload_n 1, 1) := by decide +kernel
theorem d_M_count_1 : decode b_M_count 1 = .ok (.tableswitch 134 0 8 #[51, 56, 64, 71, 78, 83, 90, 97, 104], 51) := by decide +kernel
theorem d_M_count_52 : decode b_M_count 52 = .ok (.aload_n 0, 1) := by decide +kernel
theorem d_M_count_53 : decode b_M_count 53 = .ok (.getfield 70, 3) := by decide +kernel
theorem d_M_count_56 : decode b_M_count 56 = .ok (.ireturn, 1) := by decide +kernel
theorem d_M_count_57 : decode b_M_count 57 = .ok (.aload_n 0, 1) := by decide +kernel
theorem d_M_count_58 : decode b_M_count 58 = .ok (.getfield 25, 3) := by decide +kernel
theorem d_M_count_61 : decode b_M_count 61 = .ok (.bipush 6, 2) := by decide +kernel
theorem d_M_count_63 : decode b_M_count 63 = .ok (.iaload, 1) := by decide +kernel
theorem d_M_count_64 : decode b_M_count 64 = .ok (.ireturn, 1) := by decide +kernel
theorem d_M_count_65 : decode b_M_count 65 = .ok (.aload_n 0, 1) := by decide +kernel
theorem d_M_count_66 : decode b_M_count 66 = .ok (.iconst (-1), 1) := by decide +kernel
theorem d_M_count_67 : decode b_M_count 67 = .ok (.iconst 3, 1) := by decide +kernel
theorem d_M_count_68 : decode b_M_count 68 = .ok (.invokevirtual 168, 3) := by decide +kernel
theorem d_M_count_71 : decode b_M_count 71 = .ok (.ireturn, 1) := by decide +kernel
theorem d_M_count_72 : decode b_M_count 72 = .ok (.aload_n 0, 1) := by decide +kernel
theorem d_M_count_73 : decode b_M_count 73 = .ok (.iconst (-1), 1) := by decide +kernel
theorem d_M_count_74 : decode b_M_count 74 = .ok (.iconst 4, 1) := by decide +kernel
theorem d_M_count_75 : decode b_M_count 75 = .ok (.invokevirtual 168, 3) := by decide +kernel
theorem d_M_count_78 : decode b_M_count 78 = .ok (.ireturn, 1) := by decide +kernel
theorem d_M_count_79 : decode b_M_count 79 = .ok (.aload_n 0, 1) := by decide +kernel
theorem d_M_count_80 : decode b_M_count 80 = .ok (.getfield 81, 3) := by decide +kernel
theorem d_M_count_83 : decode b_M_count 83 = .ok (.ireturn, 1) := by decide +kernel
theorem d_M_count_84 : decode b_M_count 84 = .ok (.aload_n 0, 1) := by decide +kernel
theorem d_M_count_85 : decode b_M_count 85 = .ok (.getfield 25, 3) := by decide +kernel
theorem d_M_count_88 : decode b_M_count 88 = .ok (.iconst 2, 1) := by decide +kernel
theorem d_M_count_89 : decode b_M_count 89 = .ok (.iaload, 1) := by decide +kernel
theorem d_M_count_90 : decode b_M_count 90 = .ok (.ireturn, 1) := by decide +kernel
theorem d_M_count_91 : decode b_M_count 91 = .ok (.aload_n 0, 1) := by decide +kernel
theorem d_M_count_92 : decode b_M_count 92 = .ok (.getfield 25, 3) := by decide +kernel
theorem d_M_count_95 : decode b_M_count 95 = .ok (.iconst 5, 1) := by decide +kernel
theorem d_M_count_96 : decode b_M_count 96 = .ok (.iaload, 1) := by decide +kernel
theorem d_M_count_97 : decode b_M_count 97 = .ok (.ireturn, 1) := by decide +kernel
theorem d_M_count_98 : decode b_M_count 98 = .ok (.aload_n 0, 1) := by decide +kernel
theorem d_M_count_99 : decode b_M_count 99 = .ok (.getfield 25, 3) := by decide +kernel
theorem d_M_count_102 : decode b_M_count 102 = .ok (.iconst 4, 1) := by decide +kernel
theorem d_M_count_103 : decode b_M_count 103 = .ok (.iaload, 1) := by decide +kernel
theorem d_M_count_104 : decode b_M_count 104 = .ok (.ireturn, 1) := by decide +kernel
theorem d_M_count_105 : decode b_M_count 105 = .ok (.aload_n 0, 1) := by decide +kernel
theorem d_M_count_106 : decode b_M_count 106 = .ok (.getfield 25, 3) := by decide +kernel
theorem d_M_count_109 : decode b_M_count 109 = .ok (.iconst 0, 1) := by decide +kernel
theorem d_M_count_110 : decode b_M_count 110 = .ok (.iaload, 1) := by decide +kernel
theorem d_M_count_111 : decode b_M_count 111 = .ok (.ifCond .gt 7, 3) := by decide +kernel
theorem d_M_count_114 : decode b_M_count 114 = .ok (.iconst 1, 1) := by decide +kernel
theorem d_M_count_115 : decode b_M_count 115 = .ok (.goto 4, 3) := by decide +kernel
theorem d_M_count_118 : decode b_M_count 118 = .ok (.iconst 0, 1) := by decide +kernel
theorem d_M_count_119 : decode b_M_count 119 = .ok (.aload_n 0, 1) := by decide +kernel
theorem d_M_count_120 : decode b_M_count 120 = .ok (.getfield 25, 3) := by decide +kernel
theorem d_M_count_123 : decode b_M_count 123 = .ok (.iconst 1, 1) := by decide +kernel
theorem d_M_count_124 : decode b_M_count 124 = .ok (.iaload, 1) := by decide +kernel
theorem d_M_count_125 : decode b_M_count 125 = .ok (.ifCond .gt 7, 3) := by decide +kernel
theorem d_M_count_128 : decode b_M_count 128 = .ok (.iconst 2, 1) := by decide +kernel
theorem d_M_count_129 : decode b_M_count 129 = .ok (.goto 4, 3) := by decide +kernel
theorem d_M_count_132 : decode b_M_count 132 = .ok (.iconst 0, 1) := by decide +kernel
theorem d_M_count_133 : decode b_M_count 133 = .ok (.iadd, 1) := by decide +kernel
theorem d_M_count_134 : decode b_M_count 134 = .ok (.ireturn, 1) := by decide +kernel
theorem d_M_count_135 : decode b_M_count 135 = .ok (.iconst (-1), 1) := by decide +kernel
theorem d_M_count_136 : decode b_M_count 136 = .ok (.ireturn, 1) := by decide +kernel
theorem d_W_0 : decode code 0 = .ok (.new 7, 3) := by decide +kernel
theorem d_W_3 : decode code 3 = .ok (.dup, 1) := by decide +kernel
theorem d_W_4 : decode code 4 = .ok (.invokespecial 9, 3) := by decide +kernel
theorem d_W_7 : decode code 7 = .ok (.astore_n 1, 1) := by decide +kernel
theorem d_W_8 : decode code 8 = .ok (.new 10, 3) := by decide +kernel
theorem d_W_11 : decode code 11 = .ok (.dup, 1) := by decide +kernel
theorem d_W_12 : decode code 12 = .ok (.invokespecial 12, 3) := by decide +kernel
theorem d_W_15 : decode code 15 = .ok (.astore_n 2, 1) := by decide +kernel
theorem d_W_16 : decode code 16 = .ok (.iconst 0, 1) := by decide +kernel
theorem d_W_17 : decode code 17 = .ok (.istore_n 3, 1) := by decide +kernel
theorem d_W_18 : decode code 18 = .ok (.iload_n 3, 1) := by decide +kernel
theorem d_W_19 : decode code 19 = .ok (.aload_n 0, 1) := by decide +kernel
theorem d_W_20 : decode code 20 = .ok (.arraylength, 1) := by decide +kernel
theorem d_W_21 : decode code 21 = .ok (.iconst 5, 1) := by decide +kernel
theorem d_W_22 : decode code 22 = .ok (.isub, 1) := by decide +kernel
theorem d_W_23 : decode code 23 = .ok (.if_icmp .gt 992, 3) := by decide +kernel
theorem d_W_26 : decode code 26 = .ok (.aload_n 0, 1) := by decide +kernel
theorem d_W_27 : decode code 27 = .ok (.iload_n 3, 1) := by decide +kernel
theorem d_W_28 : decode code 28 = .ok (.iaload, 1) := by decide +kernel
theorem d_W_29 : decode code 29 = .ok (.bipush 63, 2) := by decide +kernel
theorem d_W_31 : decode code 31 = .ok (.iand, 1) := by decide +kernel
theorem d_W_32 : decode code 32 = .ok (.tableswitch 977 0 32 #[148, 201, 224, 237, 270, 293, 326, 359, 392, 415, 438, 471, 504, 527, 550, 563, 576, 599, 612, 635, 658, 691, 714, 727, 750, 773, 806, 839, 862, 875, 888, 921, 954], 148) := by decide +kernel
theorem d_W_180 : decode code 180 = .ok (.aload_n 1, 1) := by decide +kernel
theorem d_W_181 : decode code 181 = .ok (.aload_n 0, 1) := by decide +kernel
theorem d_W_182 : decode code 182 = .ok (.iload_n 3, 1) := by decide +kernel
theorem d_W_183 : decode code 183 = .ok (.iconst 1, 1) := by decide +kernel
theorem d_W_184 : decode code 184 = .ok (.iadd, 1) := by decide +kernel
theorem d_W_185 : decode code 185 = .ok (.iaload, 1) := by decide +kernel
theorem d_W_186 : decode code 186 = .ok (.aload_n 0, 1) := by decide +kernel
theorem d_W_187 : decode code 187 = .ok (.iload_n 3, 1) := by decide +kernel
theorem d_W_188 : decode code 188 = .ok (.iconst 2, 1) := by decide +kernel
theorem d_W_189 : decode code 189 = .ok (.iadd, 1) := by decide +kernel
theorem d_W_190 : decode code 190 = .ok (.iaload, 1) := by decide +kernel
theorem d_W_191 : decode code 191 = .ok (.aload_n 0, 1) := by decide +kernel
theorem d_W_192 : decode code 192 = .ok (.iload_n 3, 1) := by decide +kernel
theorem d_W_193 : decode code 193 = .ok (.iconst 3, 1) := by decide +kernel
theorem d_W_194 : decode code 194 = .ok (.iadd, 1) := by decide +kernel
theorem d_W_195 : decode code 195 = .ok (.iaload, 1) := by decide +kernel
theorem d_W_196 : decode code 196 = .ok (.aload_n 0, 1) := by decide +kernel
theorem d_W_197 : decode code 197 = .ok (.iload_n 3, 1) := by decide +kernel
theorem d_W_198 : decode code 198 = .ok (.iconst 4, 1) := by decide +kernel
theorem d_W_199 : decode code 199 = .ok (.iadd, 1) := by decide +kernel
theorem d_W_200 : decode code 200 = .ok (.iaload, 1) := by decide +kernel
theorem d_W_201 : decode code 201 = .ok (.invokevirtual 13, 3) := by decide +kernel
theorem d_W_204 : decode code 204 = .ok (.aload_n 2, 1) := by decide +kernel
theorem d_W_205 : decode code 205 = .ok (.aload_n 0, 1) := by decide +kernel
theorem d_W_206 : decode code 206 = .ok (.iload_n 3, 1) := by decide +kernel
theorem d_W_207 : decode code 207 = .ok (.iconst 1, 1) := by decide +kernel
theorem d_W_208 : decode code 208 = .ok (.iadd, 1) := by decide +kernel
theorem d_W_209 : decode code 209 = .ok (.iaload, 1) := by decide +kernel
theorem d_W_210 : decode code 210 = .ok (.aload_n 0, 1) := by decide +kernel
theorem d_W_211 : decode code 211 = .ok (.iload_n 3, 1) := by decide +kernel
theorem d_W_212 : decode code 212 = .ok (.iconst 2, 1) := by decide +kernel
theorem d_W_213 : decode code 213 = .ok (.iadd, 1) := by decide +kernel
theorem d_W_214 : decode code 214 = .ok (.iaload, 1) := by decide +kernel
theorem d_W_215 : decode code 215 = .ok (.aload_n 0, 1) := by decide +kernel
theorem d_W_216 : decode code 216 = .ok (.iload_n 3, 1) := by decide +kernel
theorem d_W_217 : decode code 217 = .ok (.iconst 3, 1) := by decide +kernel
theorem d_W_218 : decode code 218 = .ok (.iadd, 1) := by decide +kernel
theorem d_W_219 : decode code 219 = .ok (.iaload, 1) := by decide +kernel
theorem d_W_220 : decode code 220 = .ok (.aload_n 0, 1) := by decide +kernel
theorem d_W_221 : decode code 221 = .ok (.iload_n 3, 1) := by decide +kernel
theorem d_W_222 : decode code 222 = .ok (.iconst 4, 1) := by decide +kernel
theorem d_W_223 : decode code 223 = .ok (.iadd, 1) := by decide +kernel
theorem d_W_224 : decode code 224 = .ok (.iaload, 1) := by decide +kernel
theorem d_W_225 : decode code 225 = .ok (.invokevirtual 17, 3) := by decide +kernel
theorem d_W_228 : decode code 228 = .ok (.if_icmp .eq 781, 3) := by decide +kernel
theorem d_W_231 : decode code 231 = .ok (.iconst 0, 1) := by decide +kernel
theorem d_W_232 : decode code 232 = .ok (.ireturn, 1) := by decide +kernel
theorem d_W_233 : decode code 233 = .ok (.aload_n 1, 1) := by decide +kernel
theorem d_W_234 : decode code 234 = .ok (.aload_n 0, 1) := by decide +kernel
theorem d_W_235 : decode code 235 = .ok (.iload_n 3, 1) := by decide +kernel
theorem d_W_236 : decode code 236 = .ok (.iconst 1, 1) := by decide +kernel
theorem d_W_237 : decode code 237 = .ok (.iadd, 1) := by decide +kernel
theorem d_W_238 : decode code 238 = .ok (.iaload, 1) := by decide +kernel
theorem d_W_239 : decode code 239 = .ok (.invokevirtual 18, 3) := by decide +kernel
theorem d_W_242 : decode code 242 = .ok (.aload_n 2, 1) := by decide +kernel
theorem d_W_243 : decode code 243 = .ok (.aload_n 0, 1) := by decide +kernel
theorem d_W_244 : decode code 244 = .ok (.iload_n 3, 1) := by decide +kernel
theorem d_W_245 : decode code 245 = .ok (.iconst 1, 1) := by decide +kernel
theorem d_W_246 : decode code 246 = .ok (.iadd, 1) := by decide +kernel
theorem d_W_247 : decode code 247 = .ok (.iaload, 1) := by decide +kernel
theorem d_W_248 : decode code 248 = .ok (.invokevirtual 22, 3) := by decide +kernel
theorem d_W_251 : decode code 251 = .ok (.if_icmp .eq 758, 3) := by decide +kernel
theorem d_W_254 : decode code 254 = .ok (.iconst 0, 1) := by decide +kernel
theorem d_W_255 : decode code 255 = .ok (.ireturn, 1) := by decide +kernel
theorem d_W_256 : decode code 256 = .ok (.aload_n 1, 1) := by decide +kernel
theorem d_W_257 : decode code 257 = .ok (.invokevirtual 23, 3) := by decide +kernel
theorem d_W_260 : decode code 260 = .ok (.aload_n 2, 1) := by decide +kernel
theorem d_W_261 : decode code 261 = .ok (.invokevirtual 27, 3) := by decide +kernel
theorem d_W_264 : decode code 264 = .ok (.if_icmp .eq 745, 3) := by decide +kernel
theorem d_W_267 : decode code 267 = .ok (.iconst 0, 1) := by decide +kernel
theorem d_W_268 : decode code 268 = .ok (.ireturn, 1) := by decide +kernel
theorem d_W_269 : decode code 269 = .ok (.aload_n 1, 1) := by decide +kernel
theorem d_W_270 : decode code 270 = .ok (.aload_n 0, 1) := by decide +kernel
theorem d_W_271 : decode code 271 = .ok (.iload_n 3, 1) := by decide +kernel
theorem d_W_272 : decode code 272 = .ok (.iconst 1, 1) := by decide +kernel
theorem d_W_273 : decode code 273 = .ok (.iadd, 1) := by decide +kernel
theorem d_W_274 : decode code 274 = .ok (.iaload, 1) := by decide +kernel
theorem d_W_275 : decode code 275 = .ok (.aload_n 0, 1) := by decide +kernel
theorem d_W_276 : decode code 276 = .ok (.iload_n 3, 1) := by decide +kernel
theorem d_W_277 : decode code 277 = .ok (.iconst 2, 1) := by decide +kernel
theorem d_W_278 : decode code 278 = .ok (.iadd, 1) := by decide +kernel
theorem d_W_279 : decode code 279 = .ok (.iaload, 1) := by decide +kernel
theorem d_W_280 : decode code 280 = .ok (.invokevirtual 28, 3) := by decide +kernel
theorem d_W_283 : decode code 283 = .ok (.aload_n 2, 1) := by decide +kernel
theorem d_W_284 : decode code 284 = .ok (.aload_n 0, 1) := by decide +kernel
theorem d_W_285 : decode code 285 = .ok (.iload_n 3, 1) := by decide +kernel
theorem d_W_286 : decode code 286 = .ok (.iconst 1, 1) := by decide +kernel
theorem d_W_287 : decode code 287 = .ok (.iadd, 1) := by decide +kernel
theorem d_W_288 : decode code 288 = .ok (.iaload, 1) := by decide +kernel
theorem d_W_289 : decode code 289 = .ok (.aload_n 0, 1) := by decide +kernel
theorem d_W_290 : decode code 290 = .ok (.iload_n 3, 1) := by decide +kernel
theorem d_W_291 : decode code 291 = .ok (.iconst 2, 1) := by decide +kernel
theorem d_W_292 : decode code 292 = .ok (.iadd, 1) := by decide +kernel
theorem d_W_293 : decode code 293 = .ok (.iaload, 1) := by decide +kernel
theorem d_W_294 : decode code 294 = .ok (.invokevirtual 32, 3) := by decide +kernel
theorem d_W_297 : decode code 297 = .ok (.if_icmp .eq 712, 3) := by decide +kernel
theorem d_W_300 : decode code 300 = .ok (.iconst 0, 1) := by decide +kernel
theorem d_W_301 : decode code 301 = .ok (.ireturn, 1) := by decide +kernel
theorem d_W_302 : decode code 302 = .ok (.aload_n 1, 1) := by decide +kernel
theorem d_W_303 : decode code 303 = .ok (.aload_n 0, 1) := by decide +kernel
theorem d_W_304 : decode code 304 = .ok (.iload_n 3, 1) := by decide +kernel
theorem d_W_305 : decode code 305 = .ok (.iconst 1, 1) := by decide +kernel
theorem d_W_306 : decode code 306 = .ok (.iadd, 1) := by decide +kernel
theorem d_W_307 : decode code 307 = .ok (.iaload, 1) := by decide +kernel
theorem d_W_308 : decode code 308 = .ok (.invokevirtual 33, 3) := by decide +kernel
theorem d_W_311 : decode code 311 = .ok (.aload_n 2, 1) := by decide +kernel
theorem d_W_312 : decode code 312 = .ok (.aload_n 0, 1) := by decide +kernel
theorem d_W_313 : decode code 313 = .ok (.iload_n 3, 1) := by decide +kernel
theorem d_W_314 : decode code 314 = .ok (.iconst 1, 1) := by decide +kernel
theorem d_W_315 : decode code 315 = .ok (.iadd, 1) := by decide +kernel
theorem d_W_316 : decode code 316 = .ok (.iaload, 1) := by decide +kernel
theorem d_W_317 : decode code 317 = .ok (.invokevirtual 36, 3) := by decide +kernel
theorem d_W_320 : decode code 320 = .ok (.if_icmp .eq 689, 3) := by decide +kernel
theorem d_W_323 : decode code 323 = .ok (.iconst 0, 1) := by decide +kernel
theorem d_W_324 : decode code 324 = .ok (.ireturn, 1) := by decide +kernel
theorem d_W_325 : decode code 325 = .ok (.aload_n 1, 1) := by decide +kernel
theorem d_W_326 : decode code 326 = .ok (.aload_n 0, 1) := by decide +kernel
theorem d_W_327 : decode code 327 = .ok (.iload_n 3, 1) := by decide +kernel
theorem d_W_328 : decode code 328 = .ok (.iconst 1, 1) := by decide +kernel
theorem d_W_329 : decode code 329 = .ok (.iadd, 1) := by decide +kernel
theorem d_W_330 : decode code 330 = .ok (.iaload, 1) := by decide +kernel
theorem d_W_331 : decode code 331 = .ok (.aload_n 0, 1) := by decide +kernel
theorem d_W_332 : decode code 332 = .ok (.iload_n 3, 1) := by decide +kernel
theorem d_W_333 : decode code 333 = .ok (.iconst 2, 1) := by decide +kernel
theorem d_W_334 : decode code 334 = .ok (.iadd, 1) := by decide +kernel
theorem d_W_335 : decode code 335 = .ok (.iaload, 1) := by decide +kernel
theorem d_W_336 : decode code 336 = .ok (.invokevirtual 37, 3) := by decide +kernel
theorem d_W_339 : decode code 339 = .ok (.aload_n 2, 1) := by decide +kernel
theorem d_W_340 : decode code 340 = .ok (.aload_n 0, 1) := by decide +kernel
theorem d_W_341 : decode code 341 = .ok (.iload_n 3, 1) := by decide +kernel
theorem d_W_342 : decode code 342 = .ok (.iconst 1, 1) := by decide +kernel
theorem d_W_343 : decode code 343 = .ok (.iadd, 1) := by decide +kernel
theorem d_W_344 : decode code 344 = .ok (.iaload, 1) := by decide +kernel
theorem d_W_345 : decode code 345 = .ok (.aload_n 0, 1) := by decide +kernel
theorem d_W_346 : decode code 346 = .ok (.iload_n 3, 1) := by decide +kernel
theorem d_W_347 : decode code 347 = .ok (.iconst 2, 1) := by decide +kernel
theorem d_W_348 : decode code 348 = .ok (.iadd, 1) := by decide +kernel
theorem d_W_349 : decode code 349 = .ok (.iaload, 1) := by decide +kernel
theorem d_W_350 : decode code 350 = .ok (.invokevirtual 40, 3) := by decide +kernel
theorem d_W_353 : decode code 353 = .ok (.if_icmp .eq 656, 3) := by decide +kernel
theorem d_W_356 : decode code 356 = .ok (.iconst 0, 1) := by decide +kernel
theorem d_W_357 : decode code 357 = .ok (.ireturn, 1) := by decide +kernel
theorem d_W_358 : decode code 358 = .ok (.aload_n 1, 1) := by decide +kernel
theorem d_W_359 : decode code 359 = .ok (.aload_n 0, 1) := by decide +kernel
theorem d_W_360 : decode code 360 = .ok (.iload_n 3, 1) := by decide +kernel
theorem d_W_361 : decode code 361 = .ok (.iconst 1, 1) := by decide +kernel
theorem d_W_362 : decode code 362 = .ok (.iadd, 1) := by decide +kernel
theorem d_W_363 : decode code 363 = .ok (.iaload, 1) := by decide +kernel
theorem d_W_364 : decode code 364 = .ok (.aload_n 0, 1) := by decide +kernel
theorem d_W_365 : decode code 365 = .ok (.iload_n 3, 1) := by decide +kernel
theorem d_W_366 : decode code 366 = .ok (.iconst 2, 1) := by decide +kernel
theorem d_W_367 : decode code 367 = .ok (.iadd, 1) := by decide +kernel
theorem d_W_368 : decode code 368 = .ok (.iaload, 1) := by decide +kernel
theorem d_W_369 : decode code 369 = .ok (.invokevirtual 41, 3) := by decide +kernel
theorem d_W_372 : decode code 372 = .ok (.aload_n 2, 1) := by decide +kernel
theorem d_W_373 : decode code 373 = .ok (.aload_n 0, 1) := by decide +kernel
theorem d_W_374 : decode code 374 = .ok (.iload_n 3, 1) := by decide +kernel
theorem d_W_375 : decode code 375 = .ok (.iconst 1, 1) := by decide +kernel
theorem d_W_376 : decode code 376 = .ok (.iadd, 1) := by decide +kernel
theorem d_W_377 : decode code 377 = .ok (.iaload, 1) := by decide +kernel
theorem d_W_378 : decode code 378 = .ok (.aload_n 0, 1) := by decide +kernel
theorem d_W_379 : decode code 379 = .ok (.iload_n 3, 1) := by decide +kernel
theorem d_W_380 : decode code 380 = .ok (.iconst 2, 1) := by decide +kernel
theorem d_W_381 : decode code 381 = .ok (.iadd, 1) := by decide +kernel
theorem d_W_382 : decode code 382 = .ok (.iaload, 1) := by decide +kernel
theorem d_W_383 : decode code 383 = .ok (.invokevirtual 44, 3) := by decide +kernel
theorem d_W_386 : decode code 386 = .ok (.if_icmp .eq 623, 3) := by decide +kernel
theorem d_W_389 : decode code 389 = .ok (.iconst 0, 1) := by decide +kernel
theorem d_W_390 : decode code 390 = .ok (.ireturn, 1) := by decide +kernel
theorem d_W_391 : decode code 391 = .ok (.aload_n 1, 1) := by decide +kernel
theorem d_W_392 : decode code 392 = .ok (.aload_n 0, 1) := by decide +kernel
theorem d_W_393 : decode code 393 = .ok (.iload_n 3, 1) := by decide +kernel
theorem d_W_394 : decode code 394 = .ok (.iconst 1, 1) := by decide +kernel
theorem d_W_395 : decode code 395 = .ok (.iadd, 1) := by decide +kernel
theorem d_W_396 : decode code 396 = .ok (.iaload, 1) := by decide +kernel
theorem d_W_397 : decode code 397 = .ok (.aload_n 0, 1) := by decide +kernel
theorem d_W_398 : decode code 398 = .ok (.iload_n 3, 1) := by decide +kernel
theorem d_W_399 : decode code 399 = .ok (.iconst 2, 1) := by decide +kernel
theorem d_W_400 : decode code 400 = .ok (.iadd, 1) := by decide +kernel
theorem d_W_401 : decode code 401 = .ok (.iaload, 1) := by decide +kernel
theorem d_W_402 : decode code 402 = .ok (.invokevirtual 45, 3) := by decide +kernel
theorem d_W_405 : decode code 405 = .ok (.aload_n 2, 1) := by decide +kernel
theorem d_W_406 : decode code 406 = .ok (.aload_n 0, 1) := by decide +kernel
theorem d_W_407 : decode code 407 = .ok (.iload_n 3, 1) := by decide +kernel
theorem d_W_408 : decode code 408 = .ok (.iconst 1, 1) := by decide +kernel
theorem d_W_409 : decode code 409 = .ok (.iadd, 1) := by decide +kernel
theorem d_W_410 : decode code 410 = .ok (.iaload, 1) := by decide +kernel
theorem d_W_411 : decode code 411 = .ok (.aload_n 0, 1) := by decide +kernel
theorem d_W_412 : decode code 412 = .ok (.iload_n 3, 1) := by decide +kernel
theorem d_W_413 : decode code 413 = .ok (.iconst 2, 1) := by decide +kernel
theorem d_W_414 : decode code 414 = .ok (.iadd, 1) := by decide +kernel
theorem d_W_415 : decode code 415 = .ok (.iaload, 1) := by decide +kernel
theorem d_W_416 : decode code 416 = .ok (.invokevirtual 48, 3) := by decide +kernel
theorem d_W_419 : decode code 419 = .ok (.if_icmp .eq 590, 3) := by decide +kernel
theorem d_W_422 : decode code 422 = .ok (.iconst 0, 1) := by decide +kernel
theorem d_W_423 : decode code 423 = .ok (.ireturn, 1) := by decide +kernel
theorem d_W_424 : decode code 424 = .ok (.aload_n 1, 1) := by decide +kernel
theorem d_W_425 : decode code 425 = .ok (.aload_n 0, 1) := by decide +kernel
theorem d_W_426 : decode code 426 = .ok (.iload_n 3, 1) := by decide +kernel
theorem d_W_427 : decode code 427 = .ok (.iconst 1, 1) := by decide +kernel
theorem d_W_428 : decode code 428 = .ok (.iadd, 1) := by decide +kernel
theorem d_W_429 : decode code 429 = .ok (.iaload, 1) := by decide +kernel
theorem d_W_430 : decode code 430 = .ok (.invokevirtual 49, 3) := by decide +kernel
theorem d_W_433 : decode code 433 = .ok (.aload_n 2, 1) := by decide +kernel
theorem d_W_434 : decode code 434 = .ok (.aload_n 0, 1) := by decide +kernel
theorem d_W_435 : decode code 435 = .ok (.iload_n 3, 1) := by decide +kernel
theorem d_W_436 : decode code 436 = .ok (.iconst 1, 1) := by decide +kernel
theorem d_W_437 : decode code 437 = .ok (.iadd, 1) := by decide +kernel
theorem d_W_438 : decode code 438 = .ok (.iaload, 1) := by decide +kernel
theorem d_W_439 : decode code 439 = .ok (.invokevirtual 52, 3) := by decide +kernel
theorem d_W_442 : decode code 442 = .ok (.if_icmp .eq 567, 3) := by decide +kernel
theorem d_W_445 : decode code 445 = .ok (.iconst 0, 1) := by decide +kernel
theorem d_W_446 : decode code 446 = .ok (.ireturn, 1) := by decide +kernel
theorem d_W_447 : decode code 447 = .ok (.aload_n 1, 1) := by decide +kernel
theorem d_W_448 : decode code 448 = .ok (.aload_n 0, 1) := by decide +kernel
theorem d_W_449 : decode code 449 = .ok (.iload_n 3, 1) := by decide +kernel
theorem d_W_450 : decode code 450 = .ok (.iconst 1, 1) := by decide +kernel
theorem d_W_451 : decode code 451 = .ok (.iadd, 1) := by decide +kernel
theorem d_W_452 : decode code 452 = .ok (.iaload, 1) := by decide +kernel
theorem d_W_453 : decode code 453 = .ok (.invokevirtual 53, 3) := by decide +kernel
theorem d_W_456 : decode code 456 = .ok (.aload_n 2, 1) := by decide +kernel
theorem d_W_457 : decode code 457 = .ok (.aload_n 0, 1) := by decide +kernel
theorem d_W_458 : decode code 458 = .ok (.iload_n 3, 1) := by decide +kernel
theorem d_W_459 : decode code 459 = .ok (.iconst 1, 1) := by decide +kernel
theorem d_W_460 : decode code 460 = .ok (.iadd, 1) := by decide +kernel
theorem d_W_461 : decode code 461 = .ok (.iaload, 1) := by decide +kernel
theorem d_W_462 : decode code 462 = .ok (.invokevirtual 56, 3) := by decide +kernel
theorem d_W_465 : decode code 465 = .ok (.if_icmp .eq 544, 3) := by decide +kernel
theorem d_W_468 : decode code 468 = .ok (.iconst 0, 1) := by decide +kernel
theorem d_W_469 : decode code 469 = .ok (.ireturn, 1) := by decide +kernel
theorem d_W_470 : decode code 470 = .ok (.aload_n 1, 1) := by decide +kernel
theorem d_W_471 : decode code 471 = .ok (.aload_n 0, 1) := by decide +kernel
theorem d_W_472 : decode code 472 = .ok (.iload_n 3, 1) := by decide +kernel
theorem d_W_473 : decode code 473 = .ok (.iconst 1, 1) := by decide +kernel
theorem d_W_474 : decode code 474 = .ok (.iadd, 1) := by decide +kernel
theorem d_W_475 : decode code 475 = .ok (.iaload, 1) := by decide +kernel
theorem d_W_476 : decode code 476 = .ok (.aload_n 0, 1) := by decide +kernel
theorem d_W_477 : decode code 477 = .ok (.iload_n 3, 1) := by decide +kernel
theorem d_W_478 : decode code 478 = .ok (.iconst 2, 1) := by decide +kernel
theorem d_W_479 : decode code 479 = .ok (.iadd, 1) := by decide +kernel
theorem d_W_480 : decode code 480 = .ok (.iaload, 1) := by decide +kernel
theorem d_W_481 : decode code 481 = .ok (.invokevirtual 57, 3) := by decide +kernel
theorem d_W_484 : decode code 484 = .ok (.aload_n 2, 1) := by decide +kernel
theorem d_W_485 : decode code 485 = .ok (.aload_n 0, 1) := by decide +kernel
theorem d_W_486 : decode code 486 = .ok (.iload_n 3, 1) := by decide +kernel
theorem d_W_487 : decode code 487 = .ok (.iconst 1, 1) := by decide +kernel
theorem d_W_488 : decode code 488 = .ok (.iadd, 1) := by decide +kernel
theorem d_W_489 : decode code 489 = .ok (.iaload, 1) := by decide +kernel
theorem d_W_490 : decode code 490 = .ok (.aload_n 0, 1) := by decide +kernel
theorem d_W_491 : decode code 491 = .ok (.iload_n 3, 1) := by decide +kernel
theorem d_W_492 : decode code 492 = .ok (.iconst 2, 1) := by decide +kernel
theorem d_W_493 : decode code 493 = .ok (.iadd, 1) := by decide +kernel
theorem d_W_494 : decode code 494 = .ok (.iaload, 1) := by decide +kernel
theorem d_W_495 : decode code 495 = .ok (.invokevirtual 60, 3) := by decide +kernel
theorem d_W_498 : decode code 498 = .ok (.if_icmp .eq 511, 3) := by decide +kernel
theorem d_W_501 : decode code 501 = .ok (.iconst 0, 1) := by decide +kernel
theorem d_W_502 : decode code 502 = .ok (.ireturn, 1) := by decide +kernel
theorem d_W_503 : decode code 503 = .ok (.aload_n 1, 1) := by decide +kernel
theorem d_W_504 : decode code 504 = .ok (.aload_n 0, 1) := by decide +kernel
theorem d_W_505 : decode code 505 = .ok (.iload_n 3, 1) := by decide +kernel
theorem d_W_506 : decode code 506 = .ok (.iconst 1, 1) := by decide +kernel
theorem d_W_507 : decode code 507 = .ok (.iadd, 1) := by decide +kernel
theorem d_W_508 : decode code 508 = .ok (.iaload, 1) := by decide +kernel
theorem d_W_509 : decode code 509 = .ok (.aload_n 0, 1) := by decide +kernel
theorem d_W_510 : decode code 510 = .ok (.iload_n 3, 1) := by decide +kernel
theorem d_W_511 : decode code 511 = .ok (.iconst 2, 1) := by decide +kernel
theorem d_W_512 : decode code 512 = .ok (.iadd, 1) := by decide +kernel
theorem d_W_513 : decode code 513 = .ok (.iaload, 1) := by decide +kernel
theorem d_W_514 : decode code 514 = .ok (.invokevirtual 61, 3) := by decide +kernel
theorem d_W_517 : decode code 517 = .ok (.aload_n 2, 1) := by decide +kernel
theorem d_W_518 : decode code 518 = .ok (.aload_n 0, 1) := by decide +kernel
theorem d_W_519 : decode code 519 = .ok (.iload_n 3, 1) := by decide +kernel
theorem d_W_520 : decode code 520 = .ok (.iconst 1, 1) := by decide +kernel
theorem d_W_521 : decode code 521 = .ok (.iadd, 1) := by decide +kernel
theorem d_W_522 : decode code 522 = .ok (.iaload, 1) := by decide +kernel
theorem d_W_523 : decode code 523 = .ok (.aload_n 0, 1) := by decide +kernel
theorem d_W_524 : decode code 524 = .ok (.iload_n 3, 1) := by decide +kernel
theorem d_W_525 : decode code 525 = .ok (.iconst 2, 1) := by decide +kernel
theorem d_W_526 : decode code 526 = .ok (.iadd, 1) := by decide +kernel
theorem d_W_527 : decode code 527 = .ok (.iaload, 1) := by decide +kernel
theorem d_W_528 : decode code 528 = .ok (.invokevirtual 64, 3) := by decide +kernel
theorem d_W_531 : decode code 531 = .ok (.if_icmp .eq 478, 3) := by decide +kernel
theorem d_W_534 : decode code 534 = .ok (.iconst 0, 1) := by decide +kernel
theorem d_W_535 : decode code 535 = .ok (.ireturn, 1) := by decide +kernel
theorem d_W_536 : decode code 536 = .ok (.aload_n 1, 1) := by decide +kernel
theorem d_W_537 : decode code 537 = .ok (.aload_n 0, 1) := by decide +kernel
theorem d_W_538 : decode code 538 = .ok (.iload_n 3, 1) := by decide +kernel
theorem d_W_539 : decode code 539 = .ok (.iconst 1, 1) := by decide +kernel
theorem d_W_540 : decode code 540 = .ok (.iadd, 1) := by decide +kernel
theorem d_W_541 : decode code 541 = .ok (.iaload, 1) := by decide +kernel
theorem d_W_542 : decode code 542 = .ok (.invokevirtual 65, 3) := by decide +kernel
theorem d_W_545 : decode code 545 = .ok (.aload_n 2, 1) := by decide +kernel
theorem d_W_546 : decode code 546 = .ok (.aload_n 0, 1) := by decide +kernel
theorem d_W_547 : decode code 547 = .ok (.iload_n 3, 1) := by decide +kernel
theorem d_W_548 : decode code 548 = .ok (.iconst 1, 1) := by decide +kernel
theorem d_W_549 : decode code 549 = .ok (.iadd, 1) := by decide +kernel
theorem d_W_550 : decode code 550 = .ok (.iaload, 1) := by decide +kernel
theorem d_W_551 : decode code 551 = .ok (.invokevirtual 68, 3) := by decide +kernel
theorem d_W_554 : decode code 554 = .ok (.if_icmp .eq 455, 3) := by decide +kernel
theorem d_W_557 : decode code 557 = .ok (.iconst 0, 1) := by decide +kernel
theorem d_W_558 : decode code 558 = .ok (.ireturn, 1) := by decide +kernel
theorem d_W_559 : decode code 559 = .ok (.aload_n 1, 1) := by decide +kernel
theorem d_W_560 : decode code 560 = .ok (.aload_n 0, 1) := by decide +kernel
theorem d_W_561 : decode code 561 = .ok (.iload_n 3, 1) := by decide +kernel
theorem d_W_562 : decode code 562 = .ok (.iconst 1, 1) := by decide +kernel
theorem d_W_563 : decode code 563 = .ok (.iadd, 1) := by decide +kernel
theorem d_W_564 : decode code 564 = .ok (.iaload, 1) := by decide +kernel
theorem d_W_565 : decode code 565 = .ok (.invokevirtual 69, 3) := by decide +kernel
theorem d_W_568 : decode code 568 = .ok (.aload_n 2, 1) := by decide +kernel
theorem d_W_569 : decode code 569 = .ok (.aload_n 0, 1) := by decide +kernel
theorem d_W_570 : decode code 570 = .ok (.iload_n 3, 1) := by decide +kernel
theorem d_W_571 : decode code 571 = .ok (.iconst 1, 1) := by decide +kernel
theorem d_W_572 : decode code 572 = .ok (.iadd, 1) := by decide +kernel
theorem d_W_573 : decode code 573 = .ok (.iaload, 1) := by decide +kernel
theorem d_W_574 : decode code 574 = .ok (.invokevirtual 72, 3) := by decide +kernel
theorem d_W_577 : decode code 577 = .ok (.if_icmp .eq 432, 3) := by decide +kernel
theorem d_W_580 : decode code 580 = .ok (.iconst 0, 1) := by decide +kernel
theorem d_W_581 : decode code 581 = .ok (.ireturn, 1) := by decide +kernel
theorem d_W_582 : decode code 582 = .ok (.aload_n 1, 1) := by decide +kernel
theorem d_W_583 : decode code 583 = .ok (.invokevirtual 73, 3) := by decide +kernel
theorem d_W_586 : decode code 586 = .ok (.aload_n 2, 1) := by decide +kernel
theorem d_W_587 : decode code 587 = .ok (.invokevirtual 76, 3) := by decide +kernel
theorem d_W_590 : decode code 590 = .ok (.if_icmp .eq 419, 3) := by decide +kernel
theorem d_W_593 : decode code 593 = .ok (.iconst 0, 1) := by decide +kernel
theorem d_W_594 : decode code 594 = .ok (.ireturn, 1) := by decide +kernel
theorem d_W_595 : decode code 595 = .ok (.aload_n 1, 1) := by decide +kernel
theorem d_W_596 : decode code 596 = .ok (.invokevirtual 77, 3) := by decide +kernel
theorem d_W_599 : decode code 599 = .ok (.aload_n 2, 1) := by decide +kernel
theorem d_W_600 : decode code 600 = .ok (.invokevirtual 80, 3) := by decide +kernel
theorem d_W_603 : decode code 603 = .ok (.if_icmp .eq 406, 3) := by decide +kernel
theorem d_W_606 : decode code 606 = .ok (.iconst 0, 1) := by decide +kernel
theorem d_W_607 : decode code 607 = .ok (.ireturn, 1) := by decide +kernel
theorem d_W_608 : decode code 608 = .ok (.aload_n 1, 1) := by decide +kernel
theorem d_W_609 : decode code 609 = .ok (.aload_n 0, 1) := by decide +kernel
theorem d_W_610 : decode code 610 = .ok (.iload_n 3, 1) := by decide +kernel
theorem d_W_611 : decode code 611 = .ok (.iconst 1, 1) := by decide +kernel
theorem d_W_612 : decode code 612 = .ok (.iadd, 1) := by decide +kernel
theorem d_W_613 : decode code 613 = .ok (.iaload, 1) := by decide +kernel
theorem d_W_614 : decode code 614 = .ok (.invokevirtual 81, 3) := by decide +kernel
theorem d_W_617 : decode code 617 = .ok (.aload_n 2, 1) := by decide +kernel
theorem d_W_618 : decode code 618 = .ok (.aload_n 0, 1) := by decide +kernel
theorem d_W_619 : decode code 619 = .ok (.iload_n 3, 1) := by decide +kernel
theorem d_W_620 : decode code 620 = .ok (.iconst 1, 1) := by decide +kernel
theorem d_W_621 : decode code 621 = .ok (.iadd, 1) := by decide +kernel
theorem d_W_622 : decode code 622 = .ok (.iaload, 1) := by decide +kernel
theorem d_W_623 : decode code 623 = .ok (.invokevirtual 84, 3) := by decide +kernel
theorem d_W_626 : decode code 626 = .ok (.if_icmp .eq 383, 3) := by decide +kernel
theorem d_W_629 : decode code 629 = .ok (.iconst 0, 1) := by decide +kernel
theorem d_W_630 : decode code 630 = .ok (.ireturn, 1) := by decide +kernel
theorem d_W_631 : decode code 631 = .ok (.aload_n 1, 1) := by decide +kernel
theorem d_W_632 : decode code 632 = .ok (.invokevirtual 85, 3) := by decide +kernel
theorem d_W_635 : decode code 635 = .ok (.aload_n 2, 1) := by decide +kernel
theorem d_W_636 : decode code 636 = .ok (.invokevirtual 88, 3) := by decide +kernel
theorem d_W_639 : decode code 639 = .ok (.if_icmp .eq 370, 3) := by decide +kernel
theorem d_W_642 : decode code 642 = .ok (.iconst 0, 1) := by decide +kernel
theorem d_W_643 : decode code 643 = .ok (.ireturn, 1) := by decide +kernel
theorem d_W_644 : decode code 644 = .ok (.aload_n 1, 1) := by decide +kernel
theorem d_W_645 : decode code 645 = .ok (.aload_n 0, 1) := by decide +kernel
theorem d_W_646 : decode code 646 = .ok (.iload_n 3, 1) := by decide +kernel
theorem d_W_647 : decode code 647 = .ok (.iconst 1, 1) := by decide +kernel
theorem d_W_648 : decode code 648 = .ok (.iadd, 1) := by decide +kernel
theorem d_W_649 : decode code 649 = .ok (.iaload, 1) := by decide +kernel
theorem d_W_650 : decode code 650 = .ok (.invokevirtual 89, 3) := by decide +kernel
theorem d_W_653 : decode code 653 = .ok (.aload_n 2, 1) := by decide +kernel
theorem d_W_654 : decode code 654 = .ok (.aload_n 0, 1) := by decide +kernel
theorem d_W_655 : decode code 655 = .ok (.iload_n 3, 1) := by decide +kernel
theorem d_W_656 : decode code 656 = .ok (.iconst 1, 1) := by decide +kernel
theorem d_W_657 : decode code 657 = .ok (.iadd, 1) := by decide +kernel
theorem d_W_658 : decode code 658 = .ok (.iaload, 1) := by decide +kernel
theorem d_W_659 : decode code 659 = .ok (.invokevirtual 92, 3) := by decide +kernel
theorem d_W_662 : decode code 662 = .ok (.if_icmp .eq 347, 3) := by decide +kernel
theorem d_W_665 : decode code 665 = .ok (.iconst 0, 1) := by decide +kernel
theorem d_W_666 : decode code 666 = .ok (.ireturn, 1) := by decide +kernel
theorem d_W_667 : decode code 667 = .ok (.aload_n 1, 1) := by decide +kernel
theorem d_W_668 : decode code 668 = .ok (.aload_n 0, 1) := by decide +kernel
theorem d_W_669 : decode code 669 = .ok (.iload_n 3, 1) := by decide +kernel
theorem d_W_670 : decode code 670 = .ok (.iconst 1, 1) := by decide +kernel
theorem d_W_671 : decode code 671 = .ok (.iadd, 1) := by decide +kernel
theorem d_W_672 : decode code 672 = .ok (.iaload, 1) := by decide +kernel
theorem d_W_673 : decode code 673 = .ok (.invokevirtual 93, 3) := by decide +kernel
theorem d_W_676 : decode code 676 = .ok (.aload_n 2, 1) := by decide +kernel
theorem d_W_677 : decode code 677 = .ok (.aload_n 0, 1) := by decide +kernel
theorem d_W_678 : decode code 678 = .ok (.iload_n 3, 1) := by decide +kernel
theorem d_W_679 : decode code 679 = .ok (.iconst 1, 1) := by decide +kernel
theorem d_W_680 : decode code 680 = .ok (.iadd, 1) := by decide +kernel
theorem d_W_681 : decode code 681 = .ok (.iaload, 1) := by decide +kernel
theorem d_W_682 : decode code 682 = .ok (.invokevirtual 96, 3) := by decide +kernel
theorem d_W_685 : decode code 685 = .ok (.if_icmp .eq 324, 3) := by decide +kernel
theorem d_W_688 : decode code 688 = .ok (.iconst 0, 1) := by decide +kernel
theorem d_W_689 : decode code 689 = .ok (.ireturn, 1) := by decide +kernel
theorem d_W_690 : decode code 690 = .ok (.aload_n 1, 1) := by decide +kernel
theorem d_W_691 : decode code 691 = .ok (.aload_n 0, 1) := by decide +kernel
theorem d_W_692 : decode code 692 = .ok (.iload_n 3, 1) := by decide +kernel
theorem d_W_693 : decode code 693 = .ok (.iconst 1, 1) := by decide +kernel
theorem d_W_694 : decode code 694 = .ok (.iadd, 1) := by decide +kernel
theorem d_W_695 : decode code 695 = .ok (.iaload, 1) := by decide +kernel
theorem d_W_696 : decode code 696 = .ok (.aload_n 0, 1) := by decide +kernel
theorem d_W_697 : decode code 697 = .ok (.iload_n 3, 1) := by decide +kernel
theorem d_W_698 : decode code 698 = .ok (.iconst 2, 1) := by decide +kernel
theorem d_W_699 : decode code 699 = .ok (.iadd, 1) := by decide +kernel
theorem d_W_700 : decode code 700 = .ok (.iaload, 1) := by decide +kernel
theorem d_W_701 : decode code 701 = .ok (.invokevirtual 97, 3) := by decide +kernel
theorem d_W_704 : decode code 704 = .ok (.aload_n 2, 1) := by decide +kernel
theorem d_W_705 : decode code 705 = .ok (.aload_n 0, 1) := by decide +kernel
theorem d_W_706 : decode code 706 = .ok (.iload_n 3, 1) := by decide +kernel
theorem d_W_707 : decode code 707 = .ok (.iconst 1, 1) := by decide +kernel
theorem d_W_708 : decode code 708 = .ok (.iadd, 1) := by decide +kernel
theorem d_W_709 : decode code 709 = .ok (.iaload, 1) := by decide +kernel
theorem d_W_710 : decode code 710 = .ok (.aload_n 0, 1) := by decide +kernel
theorem d_W_711 : decode code 711 = .ok (.iload_n 3, 1) := by decide +kernel
theorem d_W_712 : decode code 712 = .ok (.iconst 2, 1) := by decide +kernel
theorem d_W_713 : decode code 713 = .ok (.iadd, 1) := by decide +kernel
theorem d_W_714 : decode code 714 = .ok (.iaload, 1) := by decide +kernel
theorem d_W_715 : decode code 715 = .ok (.invokevirtual 100, 3) := by decide +kernel
theorem d_W_718 : decode code 718 = .ok (.if_icmp .eq 291, 3) := by decide +kernel
theorem d_W_721 : decode code 721 = .ok (.iconst 0, 1) := by decide +kernel
theorem d_W_722 : decode code 722 = .ok (.ireturn, 1) := by decide +kernel
theorem d_W_723 : decode code 723 = .ok (.aload_n 1, 1) := by decide +kernel
theorem d_W_724 : decode code 724 = .ok (.aload_n 0, 1) := by decide +kernel
theorem d_W_725 : decode code 725 = .ok (.iload_n 3, 1) := by decide +kernel
theorem d_W_726 : decode code 726 = .ok (.iconst 1, 1) := by decide +kernel
theorem d_W_727 : decode code 727 = .ok (.iadd, 1) := by decide +kernel
theorem d_W_728 : decode code 728 = .ok (.iaload, 1) := by decide +kernel
theorem d_W_729 : decode code 729 = .ok (.invokevirtual 101, 3) := by decide +kernel
theorem d_W_732 : decode code 732 = .ok (.aload_n 2, 1) := by decide +kernel
theorem d_W_733 : decode code 733 = .ok (.aload_n 0, 1) := by decide +kernel
theorem d_W_734 : decode code 734 = .ok (.iload_n 3, 1) := by decide +kernel
theorem d_W_735 : decode code 735 = .ok (.iconst 1, 1) := by decide +kernel
theorem d_W_736 : decode code 736 = .ok (.iadd, 1) := by decide +kernel
theorem d_W_737 : decode code 737 = .ok (.iaload, 1) := by decide +kernel
theorem d_W_738 : decode code 738 = .ok (.invokevirtual 104, 3) := by decide +kernel
theorem d_W_741 : decode code 741 = .ok (.if_icmp .eq 268, 3) := by decide +kernel
theorem d_W_744 : decode code 744 = .ok (.iconst 0, 1) := by decide +kernel
theorem d_W_745 : decode code 745 = .ok (.ireturn, 1) := by decide +kernel
theorem d_W_746 : decode code 746 = .ok (.aload_n 1, 1) := by decide +kernel
theorem d_W_747 : decode code 747 = .ok (.invokevirtual 105, 3) := by decide +kernel
theorem d_W_750 : decode code 750 = .ok (.aload_n 2, 1) := by decide +kernel
theorem d_W_751 : decode code 751 = .ok (.invokevirtual 108, 3) := by decide +kernel
theorem d_W_754 : decode code 754 = .ok (.if_icmp .eq 255, 3) := by decide +kernel
theorem d_W_757 : decode code 757 = .ok (.iconst 0, 1) := by decide +kernel
theorem d_W_758 : decode code 758 = .ok (.ireturn, 1) := by decide +kernel
theorem d_W_759 : decode code 759 = .ok (.aload_n 1, 1) := by decide +kernel
theorem d_W_760 : decode code 760 = .ok (.aload_n 0, 1) := by decide +kernel
theorem d_W_761 : decode code 761 = .ok (.iload_n 3, 1) := by decide +kernel
theorem d_W_762 : decode code 762 = .ok (.iconst 1, 1) := by decide +kernel
theorem d_W_763 : decode code 763 = .ok (.iadd, 1) := by decide +kernel
theorem d_W_764 : decode code 764 = .ok (.iaload, 1) := by decide +kernel
theorem d_W_765 : decode code 765 = .ok (.invokevirtual 109, 3) := by decide +kernel
theorem d_W_768 : decode code 768 = .ok (.aload_n 2, 1) := by decide +kernel
theorem d_W_769 : decode code 769 = .ok (.aload_n 0, 1) := by decide +kernel
theorem d_W_770 : decode code 770 = .ok (.iload_n 3, 1) := by decide +kernel
theorem d_W_771 : decode code 771 = .ok (.iconst 1, 1) := by decide +kernel
theorem d_W_772 : decode code 772 = .ok (.iadd, 1) := by decide +kernel
theorem d_W_773 : decode code 773 = .ok (.iaload, 1) := by decide +kernel
theorem d_W_774 : decode code 774 = .ok (.invokevirtual 112, 3) := by decide +kernel
theorem d_W_777 : decode code 777 = .ok (.if_icmp .eq 232, 3) := by decide +kernel
theorem d_W_780 : decode code 780 = .ok (.iconst 0, 1) := by decide +kernel
theorem d_W_781 : decode code 781 = .ok (.ireturn, 1) := by decide +kernel
theorem d_W_782 : decode code 782 = .ok (.aload_n 1, 1) := by decide +kernel
theorem d_W_783 : decode code 783 = .ok (.aload_n 0, 1) := by decide +kernel
theorem d_W_784 : decode code 784 = .ok (.iload_n 3, 1) := by decide +kernel
theorem d_W_785 : decode code 785 = .ok (.iconst 1, 1) := by decide +kernel
theorem d_W_786 : decode code 786 = .ok (.iadd, 1) := by decide +kernel
theorem d_W_787 : decode code 787 = .ok (.iaload, 1) := by decide +kernel
theorem d_W_788 : decode code 788 = .ok (.invokevirtual 113, 3) := by decide +kernel
theorem d_W_791 : decode code 791 = .ok (.aload_n 2, 1) := by decide +kernel
theorem d_W_792 : decode code 792 = .ok (.aload_n 0, 1) := by decide +kernel
theorem d_W_793 : decode code 793 = .ok (.iload_n 3, 1) := by decide +kernel
theorem d_W_794 : decode code 794 = .ok (.iconst 1, 1) := by decide +kernel
theorem d_W_795 : decode code 795 = .ok (.iadd, 1) := by decide +kernel
theorem d_W_796 : decode code 796 = .ok (.iaload, 1) := by decide +kernel
theorem d_W_797 : decode code 797 = .ok (.invokevirtual 116, 3) := by decide +kernel
theorem d_W_800 : decode code 800 = .ok (.if_icmp .eq 209, 3) := by decide +kernel
theorem d_W_803 : decode code 803 = .ok (.iconst 0, 1) := by decide +kernel
theorem d_W_804 : decode code 804 = .ok (.ireturn, 1) := by decide +kernel
theorem d_W_805 : decode code 805 = .ok (.aload_n 1, 1) := by decide +kernel
theorem d_W_806 : decode code 806 = .ok (.aload_n 0, 1) := by decide +kernel
theorem d_W_807 : decode code 807 = .ok (.iload_n 3, 1) := by decide +kernel
theorem d_W_808 : decode code 808 = .ok (.iconst 1, 1) := by decide +kernel
theorem d_W_809 : decode code 809 = .ok (.iadd, 1) := by decide +kernel
theorem d_W_810 : decode code 810 = .ok (.iaload, 1) := by decide +kernel
theorem d_W_811 : decode code 811 = .ok (.aload_n 0, 1) := by decide +kernel
theorem d_W_812 : decode code 812 = .ok (.iload_n 3, 1) := by decide +kernel
theorem d_W_813 : decode code 813 = .ok (.iconst 2, 1) := by decide +kernel
theorem d_W_814 : decode code 814 = .ok (.iadd, 1) := by decide +kernel
theorem d_W_815 : decode code 815 = .ok (.iaload, 1) := by decide +kernel
theorem d_W_816 : decode code 816 = .ok (.invokevirtual 117, 3) := by decide +kernel
theorem d_W_819 : decode code 819 = .ok (.aload_n 2, 1) := by decide +kernel
theorem d_W_820 : decode code 820 = .ok (.aload_n 0, 1) := by decide +kernel
theorem d_W_821 : decode code 821 = .ok (.iload_n 3, 1) := by decide +kernel
theorem d_W_822 : decode code 822 = .ok (.iconst 1, 1) := by decide +kernel
theorem d_W_823 : decode code 823 = .ok (.iadd, 1) := by decide +kernel
theorem d_W_824 : decode code 824 = .ok (.iaload, 1) := by decide +kernel
theorem d_W_825 : decode code 825 = .ok (.aload_n 0, 1) := by decide +kernel
theorem d_W_826 : decode code 826 = .ok (.iload_n 3, 1) := by decide +kernel
theorem d_W_827 : decode code 827 = .ok (.iconst 2, 1) := by decide +kernel
theorem d_W_828 : decode code 828 = .ok (.iadd, 1) := by decide +kernel
theorem d_W_829 : decode code 829 = .ok (.iaload, 1) := by decide +kernel
theorem d_W_830 : decode code 830 = .ok (.invokevirtual 120, 3) := by decide +kernel
theorem d_W_833 : decode code 833 = .ok (.if_icmp .eq 176, 3) := by decide +kernel
theorem d_W_836 : decode code 836 = .ok (.iconst 0, 1) := by decide +kernel
theorem d_W_837 : decode code 837 = .ok (.ireturn, 1) := by decide +kernel
theorem d_W_838 : decode code 838 = .ok (.aload_n 1, 1) := by decide +kernel
theorem d_W_839 : decode code 839 = .ok (.aload_n 0, 1) := by decide +kernel
theorem d_W_840 : decode code 840 = .ok (.iload_n 3, 1) := by decide +kernel
theorem d_W_841 : decode code 841 = .ok (.iconst 1, 1) := by decide +kernel
theorem d_W_842 : decode code 842 = .ok (.iadd, 1) := by decide +kernel
theorem d_W_843 : decode code 843 = .ok (.iaload, 1) := by decide +kernel
theorem d_W_844 : decode code 844 = .ok (.aload_n 0, 1) := by decide +kernel
theorem d_W_845 : decode code 845 = .ok (.iload_n 3, 1) := by decide +kernel
theorem d_W_846 : decode code 846 = .ok (.iconst 2, 1) := by decide +kernel
theorem d_W_847 : decode code 847 = .ok (.iadd, 1) := by decide +kernel
theorem d_W_848 : decode code 848 = .ok (.iaload, 1) := by decide +kernel
theorem d_W_849 : decode code 849 = .ok (.invokevirtual 121, 3) := by decide +kernel
theorem d_W_852 : decode code 852 = .ok (.aload_n 2, 1) := by decide +kernel
theorem d_W_853 : decode code 853 = .ok (.aload_n 0, 1) := by decide +kernel
theorem d_W_854 : decode code 854 = .ok (.iload_n 3, 1) := by decide +kernel
theorem d_W_855 : decode code 855 = .ok (.iconst 1, 1) := by decide +kernel
theorem d_W_856 : decode code 856 = .ok (.iadd, 1) := by decide +kernel
theorem d_W_857 : decode code 857 = .ok (.iaload, 1) := by decide +kernel
theorem d_W_858 : decode code 858 = .ok (.aload_n 0, 1) := by decide +kernel
theorem d_W_859 : decode code 859 = .ok (.iload_n 3, 1) := by decide +kernel
theorem d_W_860 : decode code 860 = .ok (.iconst 2, 1) := by decide +kernel
theorem d_W_861 : decode code 861 = .ok (.iadd, 1) := by decide +kernel
theorem d_W_862 : decode code 862 = .ok (.iaload, 1) := by decide +kernel
theorem d_W_863 : decode code 863 = .ok (.invokevirtual 124, 3) := by decide +kernel
theorem d_W_866 : decode code 866 = .ok (.if_icmp .eq 143, 3) := by decide +kernel
theorem d_W_869 : decode code 869 = .ok (.iconst 0, 1) := by decide +kernel
theorem d_W_870 : decode code 870 = .ok (.ireturn, 1) := by decide +kernel
theorem d_W_871 : decode code 871 = .ok (.aload_n 1, 1) := by decide +kernel
theorem d_W_872 : decode code 872 = .ok (.aload_n 0, 1) := by decide +kernel
theorem d_W_873 : decode code 873 = .ok (.iload_n 3, 1) := by decide +kernel
theorem d_W_874 : decode code 874 = .ok (.iconst 1, 1) := by decide +kernel
theorem d_W_875 : decode code 875 = .ok (.iadd, 1) := by decide +kernel
theorem d_W_876 : decode code 876 = .ok (.iaload, 1) := by decide +kernel
theorem d_W_877 : decode code 877 = .ok (.invokevirtual 125, 3) := by decide +kernel
theorem d_W_880 : decode code 880 = .ok (.aload_n 2, 1) := by decide +kernel
theorem d_W_881 : decode code 881 = .ok (.aload_n 0, 1) := by decide +kernel
theorem d_W_882 : decode code 882 = .ok (.iload_n 3, 1) := by decide +kernel
theorem d_W_883 : decode code 883 = .ok (.iconst 1, 1) := by decide +kernel
theorem d_W_884 : decode code 884 = .ok (.iadd, 1) := by decide +kernel
theorem d_W_885 : decode code 885 = .ok (.iaload, 1) := by decide +kernel
theorem d_W_886 : decode code 886 = .ok (.invokevirtual 128, 3) := by decide +kernel
theorem d_W_889 : decode code 889 = .ok (.if_icmp .eq 120, 3) := by decide +kernel
theorem d_W_892 : decode code 892 = .ok (.iconst 0, 1) := by decide +kernel
theorem d_W_893 : decode code 893 = .ok (.ireturn, 1) := by decide +kernel
theorem d_W_894 : decode code 894 = .ok (.aload_n 1, 1) := by decide +kernel
theorem d_W_895 : decode code 895 = .ok (.invokevirtual 129, 3) := by decide +kernel
theorem d_W_898 : decode code 898 = .ok (.aload_n 2, 1) := by decide +kernel
theorem d_W_899 : decode code 899 = .ok (.invokevirtual 132, 3) := by decide +kernel
theorem d_W_902 : decode code 902 = .ok (.if_icmp .eq 107, 3) := by decide +kernel
theorem d_W_905 : decode code 905 = .ok (.iconst 0, 1) := by decide +kernel
theorem d_W_906 : decode code 906 = .ok (.ireturn, 1) := by decide +kernel
theorem d_W_907 : decode code 907 = .ok (.aload_n 1, 1) := by decide +kernel
theorem d_W_908 : decode code 908 = .ok (.invokevirtual 133, 3) := by decide +kernel
theorem d_W_911 : decode code 911 = .ok (.aload_n 2, 1) := by decide +kernel
theorem d_W_912 : decode code 912 = .ok (.invokevirtual 136, 3) := by decide +kernel
theorem d_W_915 : decode code 915 = .ok (.if_icmp .eq 94, 3) := by decide +kernel
theorem d_W_918 : decode code 918 = .ok (.iconst 0, 1) := by decide +kernel
theorem d_W_919 : decode code 919 = .ok (.ireturn, 1) := by decide +kernel
theorem d_W_920 : decode code 920 = .ok (.aload_n 1, 1) := by decide +kernel
theorem d_W_921 : decode code 921 = .ok (.aload_n 0, 1) := by decide +kernel
theorem d_W_922 : decode code 922 = .ok (.iload_n 3, 1) := by decide +kernel
theorem d_W_923 : decode code 923 = .ok (.iconst 1, 1) := by decide +kernel
theorem d_W_924 : decode code 924 = .ok (.iadd, 1) := by decide +kernel
theorem d_W_925 : decode code 925 = .ok (.iaload, 1) := by decide +kernel
theorem d_W_926 : decode code 926 = .ok (.aload_n 0, 1) := by decide +kernel
theorem d_W_927 : decode code 927 = .ok (.iload_n 3, 1) := by decide +kernel
theorem d_W_928 : decode code 928 = .ok (.iconst 2, 1) := by decide +kernel
theorem d_W_929 : decode code 929 = .ok (.iadd, 1) := by decide +kernel
theorem d_W_930 : decode code 930 = .ok (.iaload, 1) := by decide +kernel
theorem d_W_931 : decode code 931 = .ok (.invokevirtual 137, 3) := by decide +kernel
theorem d_W_934 : decode code 934 = .ok (.aload_n 2, 1) := by decide +kernel
theorem d_W_935 : decode code 935 = .ok (.aload_n 0, 1) := by decide +kernel
theorem d_W_936 : decode code 936 = .ok (.iload_n 3, 1) := by decide +kernel
theorem d_W_937 : decode code 937 = .ok (.iconst 1, 1) := by decide +kernel
theorem d_W_938 : decode code 938 = .ok (.iadd, 1) := by decide +kernel
theorem d_W_939 : decode code 939 = .ok (.iaload, 1) := by decide +kernel
theorem d_W_940 : decode code 940 = .ok (.aload_n 0, 1) := by decide +kernel
theorem d_W_941 : decode code 941 = .ok (.iload_n 3, 1) := by decide +kernel
theorem d_W_942 : decode code 942 = .ok (.iconst 2, 1) := by decide +kernel
theorem d_W_943 : decode code 943 = .ok (.iadd, 1) := by decide +kernel
theorem d_W_944 : decode code 944 = .ok (.iaload, 1) := by decide +kernel
theorem d_W_945 : decode code 945 = .ok (.invokevirtual 140, 3) := by decide +kernel
theorem d_W_948 : decode code 948 = .ok (.if_icmp .eq 61, 3) := by decide +kernel
theorem d_W_951 : decode code 951 = .ok (.iconst 0, 1) := by decide +kernel
theorem d_W_952 : decode code 952 = .ok (.ireturn, 1) := by decide +kernel
theorem d_W_953 : decode code 953 = .ok (.aload_n 1, 1) := by decide +kernel
theorem d_W_954 : decode code 954 = .ok (.aload_n 0, 1) := by decide +kernel
theorem d_W_955 : decode code 955 = .ok (.iload_n 3, 1) := by decide +kernel
theorem d_W_956 : decode code 956 = .ok (.iconst 1, 1) := by decide +kernel
theorem d_W_957 : decode code 957 = .ok (.iadd, 1) := by decide +kernel
theorem d_W_958 : decode code 958 = .ok (.iaload, 1) := by decide +kernel
theorem d_W_959 : decode code 959 = .ok (.aload_n 0, 1) := by decide +kernel
theorem d_W_960 : decode code 960 = .ok (.iload_n 3, 1) := by decide +kernel
theorem d_W_961 : decode code 961 = .ok (.iconst 2, 1) := by decide +kernel
theorem d_W_962 : decode code 962 = .ok (.iadd, 1) := by decide +kernel
theorem d_W_963 : decode code 963 = .ok (.iaload, 1) := by decide +kernel
theorem d_W_964 : decode code 964 = .ok (.invokevirtual 141, 3) := by decide +kernel
theorem d_W_967 : decode code 967 = .ok (.aload_n 2, 1) := by decide +kernel
theorem d_W_968 : decode code 968 = .ok (.aload_n 0, 1) := by decide +kernel
theorem d_W_969 : decode code 969 = .ok (.iload_n 3, 1) := by decide +kernel
theorem d_W_970 : decode code 970 = .ok (.iconst 1, 1) := by decide +kernel
theorem d_W_971 : decode code 971 = .ok (.iadd, 1) := by decide +kernel
theorem d_W_972 : decode code 972 = .ok (.iaload, 1) := by decide +kernel
theorem d_W_973 : decode code 973 = .ok (.aload_n 0, 1) := by decide +kernel
theorem d_W_974 : decode code 974 = .ok (.iload_n 3, 1) := by decide +kernel
theorem d_W_975 : decode code 975 = .ok (.iconst 2, 1) := by decide +kernel
theorem d_W_976 : decode code 976 = .ok (.iadd, 1) := by decide +kernel
theorem d_W_977 : decode code 977 = .ok (.iaload, 1) := by decide +kernel
theorem d_W_978 : decode code 978 = .ok (.invokevirtual 144, 3) := by decide +kernel
theorem d_W_981 : decode code 981 = .ok (.if_icmp .eq 28, 3) := by decide +kernel
theorem d_W_984 : decode code 984 = .ok (.iconst 0, 1) := by decide +kernel
theorem d_W_985 : decode code 985 = .ok (.ireturn, 1) := by decide +kernel
theorem d_W_986 : decode code 986 = .ok (.aload_n 1, 1) := by decide +kernel
theorem d_W_987 : decode code 987 = .ok (.aload_n 0, 1) := by decide +kernel
theorem d_W_988 : decode code 988 = .ok (.iload_n 3, 1) := by decide +kernel
theorem d_W_989 : decode code 989 = .ok (.iconst 1, 1) := by decide +kernel
theorem d_W_990 : decode code 990 = .ok (.iadd, 1) := by decide +kernel
theorem d_W_991 : decode code 991 = .ok (.iaload, 1) := by decide +kernel
theorem d_W_992 : decode code 992 = .ok (.invokevirtual 145, 3) := by decide +kernel
theorem d_W_995 : decode code 995 = .ok (.aload_n 2, 1) := by decide +kernel
theorem d_W_996 : decode code 996 = .ok (.aload_n 0, 1) := by decide +kernel
theorem d_W_997 : decode code 997 = .ok (.iload_n 3, 1) := by decide +kernel
theorem d_W_998 : decode code 998 = .ok (.iconst 1, 1) := by decide +kernel
theorem d_W_999 : decode code 999 = .ok (.iadd, 1) := by decide +kernel
theorem d_W_1000 : decode code 1000 = .ok (.iaload, 1) := by decide +kernel
theorem d_W_1001 : decode code 1001 = .ok (.invokevirtual 148, 3) := by decide +kernel
theorem d_W_1004 : decode code 1004 = .ok (.if_icmp .eq 5, 3) := by decide +kernel
theorem d_W_1007 : decode code 1007 = .ok (.iconst 0, 1) := by decide +kernel
theorem d_W_1008 : decode code 1008 = .ok (.ireturn, 1) := by decide +kernel
theorem d_W_1009 : decode code 1009 = .ok (.iinc 3 5, 3) := by decide +kernel
theorem d_W_1012 : decode code 1012 = .ok (.goto (-994), 3) := by decide +kernel
theorem d_W_1015 : decode code 1015 = .ok (.iconst 1, 1) := by decide +kernel
theorem d_W_1016 : decode code 1016 = .ok (.ireturn, 1) := by decide +kernel
end
section
/-! THE FRAME OF ALL PROOFS: a memory of places, and the judgement G over it -/
abbrev Mem : Type := (Nat → Nat → Int32) × (Nat → Nat → Int64)
/-- a layout: how many places; what lies at each (0 and a class, or 1 ints, 2 longs, 3 games, 4 rows of ints, and a length); where references lead -/
abbrev LY : Type := Nat × (Nat → Nat × Nat) × (Nat → Nat → Nat)
/-- addresses of the places, the classes' numbers, the arrays' classes -/
abbrev WD : Type := (Nat → Nat) × va_G × (Nat → ClassId)
def cv (ad : Nat → Nat) : Value → Value
  | .ref p => .ref (ad p)
  | v => v
theorem cv_cat (ad : Nat → Nat) (v : Value) : (cv ad v).category = v.category := by cases v <;> rfl
def fvl (w : WD) (y : LY) (M : Mem) (p ci j : Nat) : Value := if fk ci j = 1 then .ref (w.1 (y.2.2 p j)) else .int (M.1 p j)
def ent (w : WD) (y : LY) (M : Mem) (p : Nat) : va_E :=
  if (y.2.1 p).1 = 0 then .inr ((y.2.1 p).2, (List.range (nf (y.2.1 p).2)).map (fvl w y M p (y.2.1 p).2))
  else if (y.2.1 p).1 = 1 then .inl (w.2.2 0, (y.2.1 p).2, .inl (M.1 p))
  else if (y.2.1 p).1 = 2 then .inl (w.2.2 1, (y.2.1 p).2, .inr (.inl (M.2 p)))
  else if (y.2.1 p).1 = 3 then .inl (w.2.2 2, (y.2.1 p).2, .inr (.inr (.inr (.inr (fun j => some (w.1 (y.2.2 p j)))))))
  else .inl (w.2.2 3, (y.2.1 p).2, .inr (.inr (.inr (.inr (fun j => some (w.1 (y.2.2 p j)))))))
def wl (w : WD) (y : LY) (M : Mem) : va_W := (List.range y.1).map (fun p => (w.1 p, ent w y M p))
def tys (w : WD) : List (ClassId × FieldType) := [(w.2.2 0, .int), (w.2.2 1, .long), (w.2.2 2, .object "LayeredCards$Game"), (w.2.2 3, .array .int)]
def AW (w : WD) (y : LY) (sz : Nat) : Nat → Prop := fun q => (∃ p, p < y.1 ∧ q = w.1 p) ∨ sz ≤ q
def adi (w : WD) (y : LY) : Prop := ∀ i j : Nat, i < y.1 → j < y.1 → w.1 i = w.1 j → i = j
def up (M : Mem) (p j : Nat) (x : Int32) : Mem := (fun a b => if a = p ∧ b = j then x else M.1 a b, M.2)
def upl (M : Mem) (p j : Nat) (x : Int64) : Mem := (M.1, fun a b => if a = p ∧ b = j then x else M.2 a b)
theorem wl_at {w : WD} {y : LY} {M : Mem} {p : Nat} (h : p < y.1) : (wl w y M)[p]? = some (w.1 p, ent w y M p) := by simp [wl, h]
theorem wl_D {w : WD} {y : LY} {M : Mem} {A : Nat → Prop} (h : adi w y) (hA : ∀ p, p < y.1 → A (w.1 p)) : va_D A (wl w y M) := by
  have key : ∀ (k : Nat) (q : Nat × va_E), (wl w y M)[k]? = some q → k < y.1 ∧ q.1 = w.1 k := by
    intro k q hk
    have hlt : k < y.1 := by
      have := (List.getElem?_eq_some_iff.mp hk).1
      simpa [wl] using this
    rw [wl_at hlt] at hk
    cases hk
    exact ⟨hlt, rfl⟩
  refine ⟨fun i j p q hi hj e => ?_, fun k q hk => ?_⟩
  · obtain ⟨a1, a2⟩ := key i p hi
    obtain ⟨b1, b2⟩ := key j q hj
    exact h i j a1 b1 (by rw [← a2, ← b2, e])
  · obtain ⟨a1, a2⟩ := key k q hk
    rw [a2]
    exact hA k a1
theorem wl_set {w : WD} {y : LY} {M M' : Mem} {p : Nat} {e : va_E} (h : p < y.1) (he : e = ent w y M' p) (ho : ∀ q, q ≠ p → ent w y M q = ent w y M' q) : (wl w y M).set p (w.1 p, e) = wl w y M' := by
  apply List.ext_getElem?
  intro i
  rw [List.getElem?_set]
  by_cases hi : p = i
  · subst hi
    rw [if_pos rfl, if_pos (by simpa [wl] using h), wl_at h, he]
  · rw [if_neg hi]
    by_cases hl : i < y.1
    · rw [wl_at hl, wl_at hl, ho i (fun q => hi q.symm)]
    · rw [List.getElem?_eq_none (by simp [wl]; omega), List.getElem?_eq_none (by simp [wl]; omega)]
theorem ent_ne {w : WD} {y : LY} {M M' : Mem} {q : Nat} (h1 : M.1 q = M'.1 q) (h2 : M.2 q = M'.2 q) : ent w y M q = ent w y M' q := by
  have hf : fvl w y M q = fvl w y M' q := by
    funext ci j
    simp [fvl, h1]
  simp [ent, h1, h2, hf]
theorem up_ne {M : Mem} {p j q : Nat} {x : Int32} (h : q ≠ p) : (up M p j x).1 q = M.1 q := by
  funext b
  simp [up, h]
theorem upl_ne {M : Mem} {p j q : Nat} {x : Int64} (h : q ≠ p) : (upl M p j x).2 q = M.2 q := by
  funext b
  simp [upl, h]
/-- field put -/
theorem wl_put {w : WD} {y : LY} {M : Mem} {p ci j : Nat} {x : Int32} (h : p < y.1) (hs : y.2.1 p = (0, ci)) (hk : fk ci j ≠ 1) (hj : j < nf ci) :
    (wl w y M).set p (w.1 p, .inr (ci, ((List.range (nf ci)).map (fvl w y M p ci)).set j (.int x))) = wl w y (up M p j x) := by
  refine wl_set h ?_ (fun q hq => ent_ne (up_ne hq).symm rfl)
  simp only [ent, hs, if_pos]
  congr 2
  apply List.ext_getElem?
  intro i
  rw [List.getElem?_set]
  by_cases hi : j = i
  · subst hi
    simp [hj, fvl, hk, up]
  · rw [if_neg hi]
    by_cases hl : i < nf ci
    · simp [hl, fvl, up, Ne.symm hi]
    · simp [hl]
theorem wl_ast {w : WD} {y : LY} {M : Mem} {p n i : Nat} {x : Int32} (h : p < y.1) (hs : y.2.1 p = (1, n)) :
    (wl w y M).set p (w.1 p, .inl (w.2.2 0, n, .inl (upd (M.1 p) i x))) = wl w y (up M p i x) := by
  refine wl_set h ?_ (fun q hq => ent_ne (up_ne hq).symm rfl)
  simp only [ent, hs]
  simp
  funext b
  simp [upd, up]
theorem wl_last {w : WD} {y : LY} {M : Mem} {p n i : Nat} {x : Int64} (h : p < y.1) (hs : y.2.1 p = (2, n)) :
    (wl w y M).set p (w.1 p, .inl (w.2.2 1, n, .inr (.inl (vp_updL (M.2 p) i x)))) = wl w y (upl M p i x) := by
  refine wl_set h ?_ (fun q hq => ent_ne rfl (upl_ne hq).symm)
  simp only [ent, hs]
  simp
  funext b
  simp [vp_updL, upl]
/-- a row copied: n values of place p0 from 0 on into place p -/
def cpr (M : Mem) (p0 p n : Nat) : Mem := (fun a b => if a = p ∧ b < n then M.1 p0 b else M.1 a b, M.2)
theorem wl_cpr {w : WD} {y : LY} {M : Mem} {p0 p N n : Nat} (h : p < y.1) (hs : y.2.1 p = (1, N)) :
    (wl w y M).set p (w.1 p, .inl (w.2.2 0, N, .inl (va_cpy (M.1 p0) (M.1 p) 0 0 n))) = wl w y (cpr M p0 p n) := by
  refine wl_set h ?_ (fun q hq => ent_ne (by funext b; simp [cpr, hq]) rfl)
  simp only [ent, hs]
  simp
  funext b
  simp [va_cpy, cpr]
theorem ent_obj {w : WD} {y : LY} {M : Mem} {p ci : Nat} (hs : y.2.1 p = (0, ci)) : ent w y M p = .inr (ci, (List.range (nf ci)).map (fvl w y M p ci)) := by simp [ent, hs]
theorem ent_int {w : WD} {y : LY} {M : Mem} {p n : Nat} (hs : y.2.1 p = (1, n)) : ent w y M p = .inl (w.2.2 0, n, .inl (M.1 p)) := by simp [ent, hs]
theorem ent_long {w : WD} {y : LY} {M : Mem} {p n : Nat} (hs : y.2.1 p = (2, n)) : ent w y M p = .inl (w.2.2 1, n, .inr (.inl (M.2 p))) := by simp [ent, hs]
theorem ent_gam {w : WD} {y : LY} {M : Mem} {p n : Nat} (hs : y.2.1 p = (3, n)) : ent w y M p = .inl (w.2.2 2, n, .inr (.inr (.inr (.inr (fun j => some (w.1 (y.2.2 p j))))))) := by simp [ent, hs]
theorem ent_row {w : WD} {y : LY} {M : Mem} {p n : Nat} (hs : y.2.1 p = (4, n)) : ent w y M p = .inl (w.2.2 3, n, .inr (.inr (.inr (.inr (fun j => some (w.1 (y.2.2 p j))))))) := by simp [ent, hs]
/-- a shape that lies in the layout -/
def sh (y : LY) (p t n : Nat) : Prop := p < y.1 ∧ y.2.1 p = (t, n)
/-- the locals -/
def lk (ad : Nat → Nat) (nL : Nat) (ls : Array Slot) (L : List (Option Value)) : Prop := ls.size = nL ∧ lv_wf ls ∧ ∀ (i : Nat) (v : Value), L[i]? = some (some v) → ls[i]? = some (.val (cv ad v))
def lpairs (ad : Nat → Nat) (L : List (Option Value)) : List (Nat × Value) := L.zipIdx.filterMap (fun q => q.1.map (fun v => (q.2, cv ad v)))
theorem lpairs_mem {ad : Nat → Nat} {L : List (Option Value)} {i : Nat} {v : Value} : (i, v) ∈ lpairs ad L ↔ ∃ x, L[i]? = some (some x) ∧ cv ad x = v := by
  simp only [lpairs, List.mem_filterMap, Prod.exists, List.mem_zipIdx_iff_getElem?, Option.map_eq_some_iff, Prod.mk.injEq]
  constructor
  · rintro ⟨a, b, h1, x, rfl, rfl, h2⟩
    exact ⟨x, h1, h2⟩
  · rintro ⟨x, h1, h2⟩
    exact ⟨some x, i, h1, x, rfl, rfl, h2⟩
theorem lk_has {ad : Nat → Nat} {nL : Nat} {ls : Array Slot} {L : List (Option Value)} : lk ad nL ls L ↔ lv_has ls nL (lpairs ad L) := by
  constructor
  · rintro ⟨h1, h2, h3⟩
    refine ⟨h1, h2, fun q hq => ?_⟩
    obtain ⟨x, a1, a2⟩ := lpairs_mem.mp (show (q.1, q.2) ∈ _ from hq)
    rw [h3 q.1 x a1, a2]
  · rintro ⟨h1, h2, h3⟩
    exact ⟨h1, h2, fun i v h => h3 (i, cv ad v) (lpairs_mem.mpr ⟨v, h, rfl⟩)⟩
/-- no long stands just below place i -/
def okst (L : List (Option Value)) (i : Nat) : Bool := match i with
  | 0 => true
  | j + 1 => match L[j]? with
    | some (some v) => v.category == 1
    | _ => true
theorem lk_set {ad : Nat → Nat} {nL i : Nat} {ls' : Array Slot} {L : List (Option Value)} {v : Value} (ho : okst L i = true) (hi : i < L.length)
    (h : lv_has ls' nL ((i, cv ad v) :: (lpairs ad L).filter (fun q => !(q.1 == i) && !(q.1 + 1 == i && q.2.category == 2)))) : lk ad nL ls' (L.set i (some v)) := by
  refine ⟨h.1, h.2.1, fun j x hj => ?_⟩
  rw [List.getElem?_set] at hj
  by_cases e : i = j
  · subst e
    rw [if_pos rfl, if_pos hi] at hj
    cases hj
    exact h.2.2 (i, cv ad v) List.mem_cons_self
  · rw [if_neg e] at hj
    refine h.2.2 (j, cv ad x) (List.mem_cons_of_mem _ (List.mem_filter.mpr ⟨lpairs_mem.mpr ⟨x, hj, rfl⟩, ?_⟩))
    have e2 : ¬ j = i := fun q => e q.symm
    simp only [Bool.and_eq_true, Bool.not_eq_true', beq_eq_false_iff_ne, ne_eq, e2, not_false_eq_true, true_and, Bool.and_eq_false_iff]
    by_cases e3 : j + 1 = i
    · subst e3
      simp [okst, hj] at ho
      right
      simp [cv_cat, ho]
    · exact Or.inl e3
theorem lk_set2 {ad : Nat → Nat} {nL i : Nat} {ls' : Array Slot} {L : List (Option Value)} {v : Value} (ho : okst L i = true) (hi : i + 1 < L.length)
    (h : lv_has ls' nL ((i, cv ad v) :: (lpairs ad L).filter (fun q => !(q.1 == i) && (!(q.1 == i + 1) && !(q.1 + 1 == i && q.2.category == 2))))) : lk ad nL ls' ((L.set i (some v)).set (i + 1) none) := by
  refine ⟨h.1, h.2.1, fun j x hj => ?_⟩
  rw [List.getElem?_set, List.getElem?_set] at hj
  by_cases e0 : i + 1 = j
  · subst e0
    rw [if_pos rfl, if_pos (by simpa using hi)] at hj
    cases hj
  · rw [if_neg e0] at hj
    by_cases e : i = j
    · subst e
      rw [if_pos rfl, if_pos (by omega)] at hj
      cases hj
      exact h.2.2 (i, cv ad v) List.mem_cons_self
    · rw [if_neg e] at hj
      refine h.2.2 (j, cv ad x) (List.mem_cons_of_mem _ (List.mem_filter.mpr ⟨lpairs_mem.mpr ⟨x, hj, rfl⟩, ?_⟩))
      have e2 : ¬ j = i := fun q => e q.symm
      have e4 : ¬ j = i + 1 := fun q => e0 q.symm
      simp only [Bool.and_eq_true, Bool.not_eq_true', beq_eq_false_iff_ne, ne_eq, e2, e4, not_false_eq_true, true_and, Bool.and_eq_false_iff]
      by_cases e3 : j + 1 = i
      · subst e3
        simp [okst, hj] at ho
        right
        simp [cv_cat, ho]
      · exact Or.inl e3
end
section
/-! THE JUDGEMENT G, its context, its rows -/
abbrev KX : Type := Program × Launch × Env × Room × State × MethodId × Array Value × List Frame × Method × Code × WD × (Option Value → Mem → Prop)
def KQ (κ : KX) : Option Value → Mem → Prop := κ.2.2.2.2.2.2.2.2.2.2.2
/-- the String constants: whose pool, which entry, what text -/
def sks : List (String × Nat × String) := [(R_T, 70, "add    times  set    like   more   twice  away   less   turn   strike heal   fetch  stop   clear  echo   "), (R_M, 84, "add"), (R_M, 85, "times"), (R_M, 87, "set"), (R_M, 89, "like"), (R_M, 91, "more"), (R_M, 93, "twice"), (R_M, 95, "away"), (R_M, 97, "less"), (R_M, 99, "turn"), (R_M, 101, "strike"), (R_M, 103, "heal"), (R_M, 105, "fetch"), (R_M, 107, "stop"), (R_M, 109, "clear"), (R_M, 111, "echo")]
def slen : List Nat := [105, 3, 5, 3, 4, 4, 5, 4, 4, 4, 6, 4, 5, 4, 5, 4]
def sbyt : List (List Int32) := [[97, 100, 100, 32, 32, 32, 32, 116, 105, 109, 101, 115, 32, 32, 115, 101, 116, 32, 32, 32, 32, 108, 105, 107, 101, 32, 32, 32, 109, 111, 114, 101, 32, 32, 32, 116, 119, 105, 99, 101, 32, 32, 97, 119, 97, 121, 32, 32, 32, 108, 101, 115, 115, 32, 32, 32, 116, 117, 114, 110, 32, 32, 32, 115, 116, 114, 105, 107, 101, 32, 104, 101, 97, 108, 32, 32, 32, 102, 101, 116, 99, 104, 32, 32, 115, 116, 111, 112, 32, 32, 32, 99, 108, 101, 97, 114, 32, 32, 101, 99, 104, 111, 32, 32, 32], [97, 100, 100], [116, 105, 109, 101, 115], [115, 101, 116], [108, 105, 107, 101], [109, 111, 114, 101], [116, 119, 105, 99, 101], [97, 119, 97, 121], [108, 101, 115, 115], [116, 117, 114, 110], [115, 116, 114, 105, 107, 101], [104, 101, 97, 108], [102, 101, 116, 99, 104], [115, 116, 111, 112], [99, 108, 101, 97, 114], [101, 99, 104, 111]]
def SX (w : WD) (A : Nat → Prop) (s : State) (H : Heap) : Prop :=
  (∀ (i : Nat) (q : String × Nat × String), sks[i]? = some q → vk_R q.1 q.2.1 q.2.2 (w.1 (1000 + i)) s) ∧ vk_S 16 slen sbyt (fun i => w.1 (1000 + i)) (fun i => w.1 (2000 + i)) A s H
theorem SX.warm {w : WD} {A : Nat → Prop} {s U : State} {H : Heap} (hW : s.WarmedH U.vm) (h : SX w A s H) : SX w A U H := ⟨fun i q hq => (h.1 i q hq).warm hW, h.2.moved hW.alike⟩
theorem SX.kept {w : WD} {A : Nat → Prop} {s : State} {H H1 : Heap} (hq : ∀ a : Nat, a < H.size → ¬ A a → H1[a]? = H[a]?) (h : SX w A s H) : SX w A s H1 := ⟨h.1, h.2.kept hq⟩
theorem SX.narrow {w : WD} {A B : Nat → Prop} {s : State} {H : Heap} (hAB : ∀ q, B q → A q) (h : SX w A s H) : SX w B s H := ⟨h.1, h.2.narrow hAB⟩
def NX (s : State) : Prop := ∀ x ∈ nst, va_Nw x s
theorem NX.warm {s U : State} (hW : s.WarmedH U.vm) (h : NX s) : NX U := by
  intro x hx
  have h1 := h x hx
  have h2 := (List.mem_filter.mp hx).2
  cases x with
  | fieldLinkNest a i b n d h => exact va_Nw.warmF hW h1
  | methodLinkNest a i x h => exact va_Nw.warmM hW h1
  | _ => exact absurd h2 (by simp [isNest])
theorem NX.same {s U : State} (hW : s.vm = U.vm) (h : NX s) : NX U := by
  intro x hx
  have h1 := h x hx
  have h2 := (List.mem_filter.mp hx).2
  cases x with
  | fieldLinkNest a i b n d h => exact va_Nw.same rfl hW h1
  | methodLinkNest a i x h => exact va_Nw.same rfl hW h1
  | _ => exact absurd h2 (by simp [isNest])
/-- the room of a method that calls d deep -/
def rmd (d : Nat) : Room := { frames := d, cells := 0, slots := 0, locals := d * 60 }
/-- a method's end: its answer and the new memory -/
def QC (w : WD) (y : LY) (PQ : Option Value → Mem → Prop) : Array Value → State → Outcome → State → Prop := fun _ st oc t =>
  (∃ (v : Option Value) (M : Mem), oc = .returned (v.map (cv w.1)) ∧ PQ v M ∧ va_P w.2.1 cls0 (wl w y M) t.heap) ∧ va_F (AW w y st.heap.size) st t
/-- what holds of the world at a method's start -/
def BX (w : WD) (y : LY) (M : Mem) (U : State) : Prop :=
  va_P w.2.1 cls0 (wl w y M) U.heap ∧ va_K w.2.1 cls0 (tys w) U ∧ adi w y ∧ NX U ∧ SX w (AW w y U.heap.size) U U.heap
/-- a method's contract at one start -/
def Ct (y : LY) (x : MethodName) (cc : ByteArray) (nL : Nat) (ret : Option FieldType) (d : Nat) (As : List Value) (M : Mem) (PQ : Option Value → Mem → Prop) : Prop :=
  ∀ (l : Launch) (w : WD) (sz : Nat), Met l x (Cond.code x cc nL ret :: tbl) (rmd d) (va_Pc (As.map (cv w.1)) (fun U => U.heap.size = sz ∧ BX w y M U)) (QC w y PQ) 0 0 (AW w y sz)
def G (κ : KX) (y : LY) (pc : Nat) (L : List (Option Value)) (st : List Value) (M : Mem) : Prop :=
  match κ with
  | (p, l, e, R, s, m, args, below, meth, c, w, PQ) => ∀ (H : Heap) (locs : List Loc) (ls : Array Slot), va_P w.2.1 cls0 (wl w y M) H → va_S (AW w y s.heap.size) s.heap H locs → lk w.1 c.maxLocals ls L →
    W p l e R s m args below meth c H locs 0 0 (MQ below (QC w y PQ) args s 0 0 (AW w y s.heap.size)) (F0 m pc ls (st.map (cv w.1)))
def Cx (κ : KX) (y : LY) (own : String) (cc : ByteArray) (nL : Nat) (ret : Option FieldType) (d : Nat) : Prop :=
  match κ with
  | (p, l, e, R, s, m, args, below, meth, c, w, PQ) => p.tables.exec = Jvm.exec ∧ c.code = cc ∧ c.maxLocals = nL ∧ s.vm.findClass own = some m.cls ∧ (∀ x ∈ tbl, x.before args s = true) ∧ va_K w.2.1 cls0 (tys w) s ∧ adi w y ∧ meth.locks = false ∧ meth.sig.returnType = ret ∧ R = rmd d ∧ NX s ∧ SX w (AW w y s.heap.size) s s.heap
theorem lk_entry {ad : Nat → Nat} {As : List Value} {nL : Nat} (hc : As.all (fun v => v.category == 1) = true) (hn : As.length ≤ nL) :
    lk ad nL ((lg_sl (As.map (cv ad)) ++ List.replicate (nL - (lg_sl (As.map (cv ad))).length) Slot.unset).toArray) (As.map some ++ List.replicate (nL - As.length) none) := by
  have h1 : ∀ v ∈ As.map (cv ad), v.category = 1 := by
    intro v hv
    obtain ⟨x, hx, rfl⟩ := List.mem_map.mp hv
    rw [cv_cat]
    exact eq_of_beq (List.all_eq_true.mp hc x hx)
  have h2 : ∀ (vs : List Value), (∀ v ∈ vs, v.category = 1) → (lg_sl vs).length = vs.length := by
    intro vs
    induction vs with
    | nil => intro _; rfl
    | cons a l ih =>
      intro h
      have ha := h a List.mem_cons_self
      have hl := ih (fun v hv => h v (List.mem_cons_of_mem _ hv))
      unfold lg_sl at hl ⊢
      rw [List.flatMap_cons, List.length_append, hl, ha]
      simp; omega
  have h3 := lv_entry (As.map (cv ad)) (n := nL) (by rw [h2 _ h1]; simpa using hn)
  refine ⟨h3.1, h3.2.1, fun i v h => ?_⟩
  have h4 : ∀ (vs : List Value) (k : Nat), (∀ v ∈ vs, v.category = 1) → ∀ (i : Nat) (v : Value), vs[i]? = some v → (k + i, v) ∈ lv_args k vs := by
    intro vs
    induction vs with
    | nil => intro k _ i v h; simp at h
    | cons a l ih =>
      intro k h i v hi
      have ha := h a List.mem_cons_self
      cases i with
      | zero =>
        simp at hi
        subst hi
        simp [lv_args]
      | succ i =>
        simp at hi
        have := ih (k + 1) (fun v hv => h v (List.mem_cons_of_mem _ hv)) i v hi
        rw [lv_args, ha]
        refine List.mem_cons_of_mem _ ?_
        rw [if_neg (by omega), show k + (i + 1) = k + 1 + i by omega]
        exact this
  have h5 : As[i]? = some v := by
    by_cases hi : i < As.length
    · rw [List.getElem?_append_left (by simpa using hi), List.getElem?_map] at h
      cases hx : As[i]? with
      | none => rw [hx] at h; cases h
      | some z => rw [hx] at h; cases h; rfl
    · rw [List.getElem?_append_right (by simp; omega), List.getElem?_replicate] at h
      split at h <;> cases h
  have h6 := h4 (As.map (cv ad)) 0 h1 i (cv ad v) (by rw [List.getElem?_map, h5]; rfl)
  rw [Nat.zero_add] at h6
  exact h3.2.2 _ h6
theorem BX_blind {w : WD} {y : LY} {M : Mem} {sz : Nat} {av : List Value} : FrameBlind (va_Pc av (fun U => U.heap.size = sz ∧ BX w y M U)) := by
  rintro a U g mk ⟨q0, q1, qP, qK, qA, qN, qS⟩
  refine ⟨q0, q1, qP, va_K.moved (u := U) (U := U.calling g mk a) (Vm.Alike.refl U.vm) qK, qA, NX.same (s := U) rfl qN, fun i q hq => vk_R.same (u := U) rfl (qS.1 i q hq), vk_S.moved (u := U) (Vm.Alike.refl U.vm) qS.2⟩
/-- a contract out of a walk -/
theorem Ct.ofG {y : LY} {x : MethodName} {cc : ByteArray} {nL : Nat} {ret : Option FieldType} {d n : Nat} {st : Bool} {As : List Value} {M : Mem} {PQ : Option Value → Mem → Prop} (mx : MX x cc nL ret n st) (L0 : List (Option Value)) (hL : As.map some ++ List.replicate (nL - As.length) none = L0) (hc : As.all (fun v => v.category == 1) = true) (hn : As.length ≤ nL)
    (body : ∀ κ : KX, Cx κ y x.cls cc nL ret d → (∀ v M', PQ v M' → KQ κ v M') → G κ y 0 L0 [] M) : Ct y x cc nL ret d As M PQ := by
  intro l w sz
  refine Met.ofW (cc := cc) (maxL := nL) (ret := ret) mx.2.2.1 rfl ?_
  intro p e s m args below meth c s₁ B hml hv
  obtain ⟨rfl, hsz, hP, hK, hA, hN, hS⟩ := hv
  subst hsz
  have hts := atoms_spec (ws := Cond.code x cc nL ret :: tbl) B.pre
  have hown : s.vm.findClass x.cls = some m.cls := findClass_of_methodNamed B.named
  have hg := body (p, l, e, rmd d, s, m, (As.map (cv w.1)).toArray, below, meth, c, w, PQ) ⟨B.exec, B.bytes, hml, hown, fun q hq => hts q (List.mem_cons_of_mem _ hq), hK, hA, B.notSynchronized, B.returns, rfl, hN, hS⟩ (fun _ _ h => h)
  have hl := lk_entry (ad := w.1) hc hn
  rw [lg_entry_eq]
  refine hg s.heap [] _ hP va_S.rf ?_
  rw [hml, ← hL]
  exact hl
/-- one class's tables -/
def CW (ci : Nat) (q : vw_C) : Prop := cls0[ci]? = some q → q.2.2 = nf ci ∧ (∀ x ∈ u_ws q.1 q.2.1 q.2.2, x ∈ tbl) ∧ (∀ a, a < q.2.2 → ∀ b, b < q.2.2 → a ≠ b → (q.2.1 a).2.1 ≠ (q.2.1 b).2.1) ∧ ∃ ty : Nat → FieldType, (∀ k, k < q.2.2 → parseFieldDescriptor (q.2.1 k).2.2.1 = some (ty k)) ∧
  (∀ k, k < q.2.2 → fk ci k = 0 → ty k = .int ∧ (q.2.1 k).2.2.2 = false) ∧ (∀ k, k < q.2.2 → fk ci k = 2 → ty k = .boolean ∧ (q.2.1 k).2.2.2 = false)
theorem cw_K : CW 0 (R_K, F_K, 5) := fun _ => ⟨rfl, i_K, n_K, ft_K, ft_K_ok, by decide +kernel, by decide +kernel⟩
theorem cw_E : CW 1 (R_E, F_E, 7) := fun _ => ⟨rfl, i_E, n_E, ft_E, ft_E_ok, by decide +kernel, by decide +kernel⟩
theorem cw_G : CW 2 (R_G, F_G, 15) := fun _ => ⟨rfl, i_G, n_G, ft_G, ft_G_ok, by decide +kernel, by decide +kernel⟩
theorem cw_Y : CW 3 (R_Y, F_Y, 7) := fun _ => ⟨rfl, i_Y, n_Y, ft_Y, ft_Y_ok, by decide +kernel, by decide +kernel⟩
theorem cw_O : CW 4 (R_O, F_O, 4) := fun _ => ⟨rfl, i_O, n_O, ft_O, ft_O_ok, by decide +kernel, by decide +kernel⟩
theorem cw_P : CW 5 (R_P, F_P, 5) := fun _ => ⟨rfl, i_P, n_P, ft_P, ft_P_ok, by decide +kernel, by decide +kernel⟩
theorem cw_R : CW 6 (R_R, F_R, 8) := fun _ => ⟨rfl, i_R, n_R, ft_R, ft_R_ok, by decide +kernel, by decide +kernel⟩
theorem cw_T : CW 7 (R_T, F_T, 8) := fun _ => ⟨rfl, i_T, n_T, ft_T, ft_T_ok, by decide +kernel, by decide +kernel⟩
theorem cw_L : CW 8 (R_L, F_L, 16) := fun _ => ⟨rfl, i_L, n_L, ft_L, ft_L_ok, by decide +kernel, by decide +kernel⟩
theorem cw_M : CW 9 (R_M, F_M, 35) := fun _ => ⟨rfl, i_M, n_M, ft_M, ft_M_ok, by decide +kernel, by decide +kernel⟩
theorem cw_all {ci : Nat} {q : vw_C} (h : cls0[ci]? = some q) : CW ci q := by
  match ci, h with
  | 0, h => cases h; exact cw_K
  | 1, h => cases h; exact cw_E
  | 2, h => cases h; exact cw_G
  | 3, h => cases h; exact cw_Y
  | 4, h => cases h; exact cw_O
  | 5, h => cases h; exact cw_P
  | 6, h => cases h; exact cw_R
  | 7, h => cases h; exact cw_T
  | 8, h => cases h; exact cw_L
  | 9, h => cases h; exact cw_M
  | k + 10, h => simp [cls0] at h
section RG
variable {κ : KX} {y : LY} {own : String} {cc : ByteArray} {nL d pc : Nat} {ret : Option FieldType} {L L' : List (Option Value)} {st : List Value} {M : Mem}
theorem u_iconst (C : Cx κ y own cc nL ret d) {n : Int} {v : Int32} (hd : decode cc pc = .ok (.iconst n, 1)) (hv : Int32.ofInt n = v) (kk : G κ y (pc + 1) L (.int v :: st) M) : G κ y pc L (st) M := by
  obtain ⟨p, l, e, R, s, m, args, below, meth, c, w, PQ⟩ := κ
  obtain ⟨hx, hb, hml, hown, hts, hK, hA, hlk, hr, hR, hN, hX⟩ := C
  subst hml
  intro H locs ls hP hS hl
  exact lv_iconst hx hb hd hv (kk H locs ls hP hS hl)
theorem u_bipush (C : Cx κ y own cc nL ret d) {n : Int} {v : Int32} (hd : decode cc pc = .ok (.bipush n, 2)) (hv : (Int8.ofInt n).toInt32 = v) (kk : G κ y (pc + 2) L (.int v :: st) M) : G κ y pc L (st) M := by
  obtain ⟨p, l, e, R, s, m, args, below, meth, c, w, PQ⟩ := κ
  obtain ⟨hx, hb, hml, hown, hts, hK, hA, hlk, hr, hR, hN, hX⟩ := C
  subst hml
  intro H locs ls hP hS hl
  exact lv_bipush hx hb hd hv (kk H locs ls hP hS hl)
theorem u_sipush (C : Cx κ y own cc nL ret d) {n : Int} {v : Int32} (hd : decode cc pc = .ok (.sipush n, 3)) (hv : (Int16.ofInt n).toInt32 = v) (kk : G κ y (pc + 3) L (.int v :: st) M) : G κ y pc L (st) M := by
  obtain ⟨p, l, e, R, s, m, args, below, meth, c, w, PQ⟩ := κ
  obtain ⟨hx, hb, hml, hown, hts, hK, hA, hlk, hr, hR, hN, hX⟩ := C
  subst hml
  intro H locs ls hP hS hl
  exact lv_sipush hx hb hd hv (kk H locs ls hP hS hl)
theorem u_lconst (C : Cx κ y own cc nL ret d) {n : Fin 2} {v : Int64} (hd : decode cc pc = .ok (.lconst n, 1)) (hv : Int64.ofNat (n : Nat) = v) (kk : G κ y (pc + 1) L (.long v :: st) M) : G κ y pc L (st) M := by
  obtain ⟨p, l, e, R, s, m, args, below, meth, c, w, PQ⟩ := κ
  obtain ⟨hx, hb, hml, hown, hts, hK, hA, hlk, hr, hR, hN, hX⟩ := C
  subst hml
  intro H locs ls hP hS hl
  exact lv_lconst hx hb hd hv (kk H locs ls hP hS hl)
theorem u_ldc (C : Cx κ y own cc nL ret d) {index : Nat} {v : Int32} (hw : Cond.constant own index v ∈ tbl) (hd : decode cc pc = .ok (.ldc index, 2)) (kk : G κ y (pc + 2) L (.int v :: st) M) : G κ y pc L (st) M := by
  obtain ⟨p, l, e, R, s, m, args, below, meth, c, w, PQ⟩ := κ
  obtain ⟨hx, hb, hml, hown, hts, hK, hA, hlk, hr, hR, hN, hX⟩ := C
  subst hml
  intro H locs ls hP hS hl
  exact lv_ldc hx hb hown (hts _ hw) hd (kk H locs ls hP hS hl)
theorem u_ldcw (C : Cx κ y own cc nL ret d) {index : Nat} {v : Int32} (hw : Cond.constant own index v ∈ tbl) (hd : decode cc pc = .ok (.ldc_w index, 3)) (kk : G κ y (pc + 3) L (.int v :: st) M) : G κ y pc L (st) M := by
  obtain ⟨p, l, e, R, s, m, args, below, meth, c, w, PQ⟩ := κ
  obtain ⟨hx, hb, hml, hown, hts, hK, hA, hlk, hr, hR, hN, hX⟩ := C
  subst hml
  intro H locs ls hP hS hl
  exact lv_ldcw hx hb hown (hts _ hw) hd (kk H locs ls hP hS hl)
theorem u_ldcS (C : Cx κ y own cc nL ret d) {index i : Nat} {tx : String} (hw : sks[i]? = some (own, index, tx)) (hd : decode cc pc = .ok (.ldc index, 2)) (kk : G κ y (pc + 2) L (.ref (1000 + i) :: st) M) : G κ y pc L (st) M := by
  obtain ⟨p, l, e, R, s, m, args, below, meth, c, w, PQ⟩ := κ
  obtain ⟨hx, hb, hml, hown, hts, hK, hA, hlk, hr, hR, hN, hX⟩ := C
  subst hml
  intro H locs ls hP hS hl
  exact va_ldcS hx hb hown (hX.1 i _ hw) hd (kk H locs ls hP hS hl)
theorem u_iload_n (C : Cx κ y own cc nL ret d) {k : Fin 4} {x : Int32} (hd : decode cc pc = .ok (.iload_n k, 1)) (hi : L[(k : Nat)]? = some (some (.int x))) (kk : G κ y (pc + 1) L (.int x :: st) M) : G κ y pc L (st) M := by
  obtain ⟨p, l, e, R, s, m, args, below, meth, c, w, PQ⟩ := κ
  obtain ⟨hx, hb, hml, hown, hts, hK, hA, hlk, hr, hR, hN, hX⟩ := C
  subst hml
  intro H locs ls hP hS hl
  exact lv_iload_n hx hb hd rfl (hl.2.2 _ _ hi) (kk H locs ls hP hS hl)
theorem u_iload (C : Cx κ y own cc nL ret d) {i : Nat} {x : Int32} (hd : decode cc pc = .ok (.iload i, 2)) (hi : L[i]? = some (some (.int x))) (kk : G κ y (pc + 2) L (.int x :: st) M) : G κ y pc L (st) M := by
  obtain ⟨p, l, e, R, s, m, args, below, meth, c, w, PQ⟩ := κ
  obtain ⟨hx, hb, hml, hown, hts, hK, hA, hlk, hr, hR, hN, hX⟩ := C
  subst hml
  intro H locs ls hP hS hl
  exact lv_iload hx hb hd (hl.2.2 _ _ hi) (kk H locs ls hP hS hl)
theorem u_aload_n (C : Cx κ y own cc nL ret d) {k : Fin 4} {x : Nat} (hd : decode cc pc = .ok (.aload_n k, 1)) (hi : L[(k : Nat)]? = some (some (.ref x))) (kk : G κ y (pc + 1) L (.ref x :: st) M) : G κ y pc L (st) M := by
  obtain ⟨p, l, e, R, s, m, args, below, meth, c, w, PQ⟩ := κ
  obtain ⟨hx, hb, hml, hown, hts, hK, hA, hlk, hr, hR, hN, hX⟩ := C
  subst hml
  intro H locs ls hP hS hl
  exact lv_aload_n hx hb hd rfl (hl.2.2 _ _ hi) (kk H locs ls hP hS hl)
theorem u_aload (C : Cx κ y own cc nL ret d) {i : Nat} {x : Nat} (hd : decode cc pc = .ok (.aload i, 2)) (hi : L[i]? = some (some (.ref x))) (kk : G κ y (pc + 2) L (.ref x :: st) M) : G κ y pc L (st) M := by
  obtain ⟨p, l, e, R, s, m, args, below, meth, c, w, PQ⟩ := κ
  obtain ⟨hx, hb, hml, hown, hts, hK, hA, hlk, hr, hR, hN, hX⟩ := C
  subst hml
  intro H locs ls hP hS hl
  exact lv_aload hx hb hd (hl.2.2 _ _ hi) (kk H locs ls hP hS hl)
theorem u_lload_n (C : Cx κ y own cc nL ret d) {k : Fin 4} {x : Int64} (hd : decode cc pc = .ok (.lload_n k, 1)) (hi : L[(k : Nat)]? = some (some (.long x))) (kk : G κ y (pc + 1) L (.long x :: st) M) : G κ y pc L (st) M := by
  obtain ⟨p, l, e, R, s, m, args, below, meth, c, w, PQ⟩ := κ
  obtain ⟨hx, hb, hml, hown, hts, hK, hA, hlk, hr, hR, hN, hX⟩ := C
  subst hml
  intro H locs ls hP hS hl
  exact lv_lload_n hx hb hd rfl (hl.2.2 _ _ hi) (kk H locs ls hP hS hl)
theorem u_lload (C : Cx κ y own cc nL ret d) {i : Nat} {x : Int64} (hd : decode cc pc = .ok (.lload i, 2)) (hi : L[i]? = some (some (.long x))) (kk : G κ y (pc + 2) L (.long x :: st) M) : G κ y pc L (st) M := by
  obtain ⟨p, l, e, R, s, m, args, below, meth, c, w, PQ⟩ := κ
  obtain ⟨hx, hb, hml, hown, hts, hK, hA, hlk, hr, hR, hN, hX⟩ := C
  subst hml
  intro H locs ls hP hS hl
  exact lv_lload hx hb hd (hl.2.2 _ _ hi) (kk H locs ls hP hS hl)
theorem u_istore_n (C : Cx κ y own cc nL ret d) {k : Fin 4} {x : Int32} (hd : decode cc pc = .ok (.istore_n k, 1)) (ho : (decide ((k : Nat) < L.length) && decide ((k : Nat) < nL) && okst L k) = true) (kk : ∀ z : Int32, z = x → ∀ L', L.set (k : Nat) (some (.int z)) = L' → G κ y (pc + 1) L' st M) : G κ y pc L (.int x :: st) M := by
  obtain ⟨p, l, e, R, s, m, args, below, meth, c, w, PQ⟩ := κ
  obtain ⟨hx, hb, hml, hown, hts, hK, hA, hlk, hr, hR, hN, hX⟩ := C
  subst hml
  intro H locs ls hP hS hl
  simp only [Bool.and_eq_true, decide_eq_true_eq] at ho
  exact lv_istore_n hx hb hd rfl (lk_has.mp hl) ho.1.2 rfl (fun ls' hl' => kk x rfl _ rfl H locs ls' hP hS (lk_set ho.2 ho.1.1 hl'))
theorem u_istore (C : Cx κ y own cc nL ret d) {k : Nat} {x : Int32} (hd : decode cc pc = .ok (.istore k, 2)) (ho : (decide ((k : Nat) < L.length) && decide ((k : Nat) < nL) && okst L k) = true) (kk : ∀ z : Int32, z = x → ∀ L', L.set (k : Nat) (some (.int z)) = L' → G κ y (pc + 2) L' st M) : G κ y pc L (.int x :: st) M := by
  obtain ⟨p, l, e, R, s, m, args, below, meth, c, w, PQ⟩ := κ
  obtain ⟨hx, hb, hml, hown, hts, hK, hA, hlk, hr, hR, hN, hX⟩ := C
  subst hml
  intro H locs ls hP hS hl
  simp only [Bool.and_eq_true, decide_eq_true_eq] at ho
  exact lv_istore hx hb hd (lk_has.mp hl) ho.1.2 rfl (fun ls' hl' => kk x rfl _ rfl H locs ls' hP hS (lk_set ho.2 ho.1.1 hl'))
theorem u_astore_n (C : Cx κ y own cc nL ret d) {k : Fin 4} {x : Nat} (hd : decode cc pc = .ok (.astore_n k, 1)) (ho : (decide ((k : Nat) < L.length) && decide ((k : Nat) < nL) && okst L k) = true) (kk : ∀ L', L.set (k : Nat) (some (.ref x)) = L' → G κ y (pc + 1) L' st M) : G κ y pc L (.ref x :: st) M := by
  obtain ⟨p, l, e, R, s, m, args, below, meth, c, w, PQ⟩ := κ
  obtain ⟨hx, hb, hml, hown, hts, hK, hA, hlk, hr, hR, hN, hX⟩ := C
  subst hml
  intro H locs ls hP hS hl
  simp only [Bool.and_eq_true, decide_eq_true_eq] at ho
  exact lv_astore_n hx hb hd rfl (lk_has.mp hl) ho.1.2 rfl (fun ls' hl' => kk _ rfl H locs ls' hP hS (lk_set ho.2 ho.1.1 hl'))
theorem u_astore (C : Cx κ y own cc nL ret d) {k : Nat} {x : Nat} (hd : decode cc pc = .ok (.astore k, 2)) (ho : (decide ((k : Nat) < L.length) && decide ((k : Nat) < nL) && okst L k) = true) (kk : ∀ L', L.set (k : Nat) (some (.ref x)) = L' → G κ y (pc + 2) L' st M) : G κ y pc L (.ref x :: st) M := by
  obtain ⟨p, l, e, R, s, m, args, below, meth, c, w, PQ⟩ := κ
  obtain ⟨hx, hb, hml, hown, hts, hK, hA, hlk, hr, hR, hN, hX⟩ := C
  subst hml
  intro H locs ls hP hS hl
  simp only [Bool.and_eq_true, decide_eq_true_eq] at ho
  exact lv_astore hx hb hd (lk_has.mp hl) ho.1.2 rfl (fun ls' hl' => kk _ rfl H locs ls' hP hS (lk_set ho.2 ho.1.1 hl'))
theorem u_lstore (C : Cx κ y own cc nL ret d) {k : Nat} {x : Int64} (hd : decode cc pc = .ok (.lstore k, 2)) (ho : (decide ((k : Nat) + 1 < L.length) && decide ((k : Nat) + 1 < nL) && okst L k) = true) (kk : ∀ z : Int64, z = x → ∀ L', ((L.set k (some (.long z))).set (k + 1) none) = L' → G κ y (pc + 2) L' st M) : G κ y pc L (.long x :: st) M := by
  obtain ⟨p, l, e, R, s, m, args, below, meth, c, w, PQ⟩ := κ
  obtain ⟨hx, hb, hml, hown, hts, hK, hA, hlk, hr, hR, hN, hX⟩ := C
  subst hml
  intro H locs ls hP hS hl
  simp only [Bool.and_eq_true, decide_eq_true_eq] at ho
  exact lv_lstore hx hb hd (lk_has.mp hl) ho.1.2 rfl (fun ls' hl' => kk x rfl _ rfl H locs ls' hP hS (lk_set2 ho.2 ho.1.1 hl'))
theorem u_iinc (C : Cx κ y own cc nL ret d) {i : Nat} {n : Int} {x : Int32} (hd : decode cc pc = .ok (.iinc i n, 3)) (hi : L[i]? = some (some (.int x))) (ho : (decide (i < L.length) && decide (i < nL) && okst L i) = true) (kk : ∀ z : Int32, z = x + Int32.ofInt n → ∀ L', L.set i (some (.int z)) = L' → G κ y (pc + 3) L' st M) : G κ y pc L (st) M := by
  obtain ⟨p, l, e, R, s, m, args, below, meth, c, w, PQ⟩ := κ
  obtain ⟨hx, hb, hml, hown, hts, hK, hA, hlk, hr, hR, hN, hX⟩ := C
  subst hml
  intro H locs ls hP hS hl
  simp only [Bool.and_eq_true, decide_eq_true_eq] at ho
  obtain ⟨k, hk⟩ := List.getElem?_of_mem (lpairs_mem.mpr ⟨_, hi, rfl⟩ : (i, cv w.1 (.int x)) ∈ lpairs w.1 L)
  exact lv_iinc hx hb hd (lk_has.mp hl) hk rfl ho.1.2 rfl (fun ls' hl' => kk _ rfl _ rfl H locs ls' hP hS (lk_set ho.2 ho.1.1 hl'))
theorem u_iadd (C : Cx κ y own cc nL ret d) {x z : Int32} (hd : decode cc pc = .ok (.iadd, 1)) (kk : G κ y (pc + 1) L (.int (x + z) :: st) M) : G κ y pc L (.int z :: .int x :: st) M := by
  obtain ⟨p, l, e, R, s, m, args, below, meth, c, w, PQ⟩ := κ
  obtain ⟨hx, hb, hml, hown, hts, hK, hA, hlk, hr, hR, hN, hX⟩ := C
  subst hml
  intro H locs ls hP hS hl
  exact lv_iadd hx hb hd (kk H locs ls hP hS hl)
theorem u_isub (C : Cx κ y own cc nL ret d) {x z : Int32} (hd : decode cc pc = .ok (.isub, 1)) (kk : G κ y (pc + 1) L (.int (x - z) :: st) M) : G κ y pc L (.int z :: .int x :: st) M := by
  obtain ⟨p, l, e, R, s, m, args, below, meth, c, w, PQ⟩ := κ
  obtain ⟨hx, hb, hml, hown, hts, hK, hA, hlk, hr, hR, hN, hX⟩ := C
  subst hml
  intro H locs ls hP hS hl
  exact lv_isub hx hb hd (kk H locs ls hP hS hl)
theorem u_imul (C : Cx κ y own cc nL ret d) {x z : Int32} (hd : decode cc pc = .ok (.imul, 1)) (kk : G κ y (pc + 1) L (.int (x * z) :: st) M) : G κ y pc L (.int z :: .int x :: st) M := by
  obtain ⟨p, l, e, R, s, m, args, below, meth, c, w, PQ⟩ := κ
  obtain ⟨hx, hb, hml, hown, hts, hK, hA, hlk, hr, hR, hN, hX⟩ := C
  subst hml
  intro H locs ls hP hS hl
  exact lv_imul hx hb hd (kk H locs ls hP hS hl)
theorem u_iand (C : Cx κ y own cc nL ret d) {x z : Int32} (hd : decode cc pc = .ok (.iand, 1)) (kk : G κ y (pc + 1) L (.int (x &&& z) :: st) M) : G κ y pc L (.int z :: .int x :: st) M := by
  obtain ⟨p, l, e, R, s, m, args, below, meth, c, w, PQ⟩ := κ
  obtain ⟨hx, hb, hml, hown, hts, hK, hA, hlk, hr, hR, hN, hX⟩ := C
  subst hml
  intro H locs ls hP hS hl
  exact lv_iand hx hb hd (kk H locs ls hP hS hl)
theorem u_ior (C : Cx κ y own cc nL ret d) {x z : Int32} (hd : decode cc pc = .ok (.ior, 1)) (kk : G κ y (pc + 1) L (.int (x ||| z) :: st) M) : G κ y pc L (.int z :: .int x :: st) M := by
  obtain ⟨p, l, e, R, s, m, args, below, meth, c, w, PQ⟩ := κ
  obtain ⟨hx, hb, hml, hown, hts, hK, hA, hlk, hr, hR, hN, hX⟩ := C
  subst hml
  intro H locs ls hP hS hl
  exact lv_ior hx hb hd (kk H locs ls hP hS hl)
theorem u_ixor (C : Cx κ y own cc nL ret d) {x z : Int32} (hd : decode cc pc = .ok (.ixor, 1)) (kk : G κ y (pc + 1) L (.int (x ^^^ z) :: st) M) : G κ y pc L (.int z :: .int x :: st) M := by
  obtain ⟨p, l, e, R, s, m, args, below, meth, c, w, PQ⟩ := κ
  obtain ⟨hx, hb, hml, hown, hts, hK, hA, hlk, hr, hR, hN, hX⟩ := C
  subst hml
  intro H locs ls hP hS hl
  exact lv_ixor hx hb hd (kk H locs ls hP hS hl)
theorem u_ishl (C : Cx κ y own cc nL ret d) {x z : Int32} (hd : decode cc pc = .ok (.ishl, 1)) (kk : G κ y (pc + 1) L (.int (x <<< (z &&& 31)) :: st) M) : G κ y pc L (.int z :: .int x :: st) M := by
  obtain ⟨p, l, e, R, s, m, args, below, meth, c, w, PQ⟩ := κ
  obtain ⟨hx, hb, hml, hown, hts, hK, hA, hlk, hr, hR, hN, hX⟩ := C
  subst hml
  intro H locs ls hP hS hl
  exact lv_ishl hx hb hd (kk H locs ls hP hS hl)
theorem u_ishr (C : Cx κ y own cc nL ret d) {x z : Int32} (hd : decode cc pc = .ok (.ishr, 1)) (kk : G κ y (pc + 1) L (.int (x >>> (z &&& 31)) :: st) M) : G κ y pc L (.int z :: .int x :: st) M := by
  obtain ⟨p, l, e, R, s, m, args, below, meth, c, w, PQ⟩ := κ
  obtain ⟨hx, hb, hml, hown, hts, hK, hA, hlk, hr, hR, hN, hX⟩ := C
  subst hml
  intro H locs ls hP hS hl
  exact lv_ishr hx hb hd (kk H locs ls hP hS hl)
theorem u_idiv (C : Cx κ y own cc nL ret d) {x z : Int32} (hd : decode cc pc = .ok (.idiv, 1)) (hne : ¬ z = 0) (kk : G κ y (pc + 1) L (.int (x / z) :: st) M) : G κ y pc L (.int z :: .int x :: st) M := by
  obtain ⟨p, l, e, R, s, m, args, below, meth, c, w, PQ⟩ := κ
  obtain ⟨hx, hb, hml, hown, hts, hK, hA, hlk, hr, hR, hN, hX⟩ := C
  subst hml
  intro H locs ls hP hS hl
  exact lv_idiv hx hb hd hne (kk H locs ls hP hS hl)
theorem u_irem (C : Cx κ y own cc nL ret d) {x z : Int32} (hd : decode cc pc = .ok (.irem, 1)) (hne : ¬ z = 0) (kk : G κ y (pc + 1) L (.int (x - x / z * z) :: st) M) : G κ y pc L (.int z :: .int x :: st) M := by
  obtain ⟨p, l, e, R, s, m, args, below, meth, c, w, PQ⟩ := κ
  obtain ⟨hx, hb, hml, hown, hts, hK, hA, hlk, hr, hR, hN, hX⟩ := C
  subst hml
  intro H locs ls hP hS hl
  exact lv_irem hx hb hd hne (kk H locs ls hP hS hl)
theorem u_ineg (C : Cx κ y own cc nL ret d) {x : Int32} (hd : decode cc pc = .ok (.ineg, 1)) (kk : G κ y (pc + 1) L (.int (-x) :: st) M) : G κ y pc L (.int x :: st) M := by
  obtain ⟨p, l, e, R, s, m, args, below, meth, c, w, PQ⟩ := κ
  obtain ⟨hx, hb, hml, hown, hts, hK, hA, hlk, hr, hR, hN, hX⟩ := C
  subst hml
  intro H locs ls hP hS hl
  exact lv_ineg hx hb hd (kk H locs ls hP hS hl)
theorem u_lor (C : Cx κ y own cc nL ret d) {x z : Int64} (hd : decode cc pc = .ok (.lor, 1)) (kk : G κ y (pc + 1) L (.long (x ||| z) :: st) M) : G κ y pc L (.long z :: .long x :: st) M := by
  obtain ⟨p, l, e, R, s, m, args, below, meth, c, w, PQ⟩ := κ
  obtain ⟨hx, hb, hml, hown, hts, hK, hA, hlk, hr, hR, hN, hX⟩ := C
  subst hml
  intro H locs ls hP hS hl
  exact lv_lor hx hb hd (kk H locs ls hP hS hl)
theorem u_i2l (C : Cx κ y own cc nL ret d) {x : Int32} (hd : decode cc pc = .ok (.i2l, 1)) (kk : G κ y (pc + 1) L (.long x.toInt64 :: st) M) : G κ y pc L (.int x :: st) M := by
  obtain ⟨p, l, e, R, s, m, args, below, meth, c, w, PQ⟩ := κ
  obtain ⟨hx, hb, hml, hown, hts, hK, hA, hlk, hr, hR, hN, hX⟩ := C
  subst hml
  intro H locs ls hP hS hl
  exact lv_i2l hx hb hd rfl (kk H locs ls hP hS hl)
theorem u_iushr (C : Cx κ y own cc nL ret d) {x z : Int32} (hd : decode cc pc = .ok (.iushr, 1)) (kk : G κ y (pc + 1) L (.int ((x.toUInt32 >>> (z.toUInt32 &&& Int32.toUInt32 31)).toInt32) :: st) M) : G κ y pc L (.int z :: .int x :: st) M := by
  obtain ⟨p, l, e, R, s, m, args, below, meth, c, w, PQ⟩ := κ
  obtain ⟨hx, hb, hml, hown, hts, hK, hA, hlk, hr, hR, hN, hX⟩ := C
  subst hml
  intro H locs ls hP hS hl
  exact lv_iushr hx hb hd rfl (kk H locs ls hP hS hl)
theorem u_lshl (C : Cx κ y own cc nL ret d) {x : Int64} {z : Int32} (hd : decode cc pc = .ok (.lshl, 1)) (kk : G κ y (pc + 1) L (.long (x <<< (z.toInt64 &&& 63)) :: st) M) : G κ y pc L (.int z :: .long x :: st) M := by
  obtain ⟨p, l, e, R, s, m, args, below, meth, c, w, PQ⟩ := κ
  obtain ⟨hx, hb, hml, hown, hts, hK, hA, hlk, hr, hR, hN, hX⟩ := C
  subst hml
  intro H locs ls hP hS hl
  exact lv_lshl hx hb hd rfl (kk H locs ls hP hS hl)
theorem u_lcmp (C : Cx κ y own cc nL ret d) {x z : Int64} (hd : decode cc pc = .ok (.lcmp, 1)) (kk : G κ y (pc + 1) L (.int (lg_cmp x z) :: st) M) : G κ y pc L (.long z :: .long x :: st) M := by
  obtain ⟨p, l, e, R, s, m, args, below, meth, c, w, PQ⟩ := κ
  obtain ⟨hx, hb, hml, hown, hts, hK, hA, hlk, hr, hR, hN, hX⟩ := C
  subst hml
  intro H locs ls hP hS hl
  exact W.lcmp hx hb hd (kk H locs ls hP hS hl)
theorem u_dup (C : Cx κ y own cc nL ret d) {va : Value} (hd : decode cc pc = .ok (.dup, 1)) (ha : va.category = 1) (kk : G κ y (pc + 1) L (va :: va :: st) M) : G κ y pc L (va :: st) M := by
  obtain ⟨p, l, e, R, s, m, args, below, meth, c, w, PQ⟩ := κ
  obtain ⟨hx, hb, hml, hown, hts, hK, hA, hlk, hr, hR, hN, hX⟩ := C
  subst hml
  intro H locs ls hP hS hl
  exact lv_dup hx hb hd (by rw [cv_cat]; exact ha) (kk H locs ls hP hS hl)
theorem u_pop (C : Cx κ y own cc nL ret d) {va : Value} (hd : decode cc pc = .ok (.pop, 1)) (ha : va.category = 1) (kk : G κ y (pc + 1) L st M) : G κ y pc L (va :: st) M := by
  obtain ⟨p, l, e, R, s, m, args, below, meth, c, w, PQ⟩ := κ
  obtain ⟨hx, hb, hml, hown, hts, hK, hA, hlk, hr, hR, hN, hX⟩ := C
  subst hml
  intro H locs ls hP hS hl
  exact lv_pop hx hb hd (by rw [cv_cat]; exact ha) (kk H locs ls hP hS hl)
theorem u_dup_x1 (C : Cx κ y own cc nL ret d) {va vb : Value} (hd : decode cc pc = .ok (.dup_x1, 1)) (ha : va.category = 1) (hbb : vb.category = 1) (kk : G κ y (pc + 1) L (va :: vb :: va :: st) M) : G κ y pc L (va :: vb :: st) M := by
  obtain ⟨p, l, e, R, s, m, args, below, meth, c, w, PQ⟩ := κ
  obtain ⟨hx, hb, hml, hown, hts, hK, hA, hlk, hr, hR, hN, hX⟩ := C
  subst hml
  intro H locs ls hP hS hl
  exact lv_dup_x1 hx hb hd (by rw [cv_cat]; exact ha) (by rw [cv_cat]; exact hbb) (kk H locs ls hP hS hl)
theorem u_dup_x2 (C : Cx κ y own cc nL ret d) {va vb vc : Value} (hd : decode cc pc = .ok (.dup_x2, 1)) (ha : va.category = 1) (hbb : vb.category = 1) (hc : vc.category = 1) (kk : G κ y (pc + 1) L (va :: vb :: vc :: va :: st) M) : G κ y pc L (va :: vb :: vc :: st) M := by
  obtain ⟨p, l, e, R, s, m, args, below, meth, c, w, PQ⟩ := κ
  obtain ⟨hx, hb, hml, hown, hts, hK, hA, hlk, hr, hR, hN, hX⟩ := C
  subst hml
  intro H locs ls hP hS hl
  exact lv_dup_x2 hx hb hd (by rw [cv_cat]; exact ha) (by rw [cv_cat]; exact hbb) (by rw [cv_cat]; exact hc) (kk H locs ls hP hS hl)
theorem u_dup2 (C : Cx κ y own cc nL ret d) {va vb : Value} (hd : decode cc pc = .ok (.dup2, 1)) (ha : va.category = 1) (hbb : vb.category = 1) (kk : G κ y (pc + 1) L (va :: vb :: va :: vb :: st) M) : G κ y pc L (va :: vb :: st) M := by
  obtain ⟨p, l, e, R, s, m, args, below, meth, c, w, PQ⟩ := κ
  obtain ⟨hx, hb, hml, hown, hts, hK, hA, hlk, hr, hR, hN, hX⟩ := C
  subst hml
  intro H locs ls hP hS hl
  exact lv_dup2_11 hx hb hd (by rw [cv_cat]; exact ha) (by rw [cv_cat]; exact hbb) (kk H locs ls hP hS hl)
theorem u_if_eq (C : Cx κ y own cc nL ret d) {x : Int32} {off : Int} {tgt : Nat} (hd : decode cc pc = .ok (.ifCond .eq off, 3)) (ht : (pc : Int) + off = (tgt : Int)) (kt : x = 0 → G κ y tgt L st M) (kf : ¬ x = 0 → G κ y (pc + 3) L st M) : G κ y pc L (.int x :: st) M := by
  obtain ⟨p, l, e, R, s, m, args, below, meth, c, w, PQ⟩ := κ
  obtain ⟨hx, hb, hml, hown, hts, hK, hA, hlk, hr, hR, hN, hX⟩ := C
  subst hml
  intro H locs ls hP hS hl
  exact lv_if_eq hx hb hd ht (fun q => kt q H locs ls hP hS hl) (fun q => kf q H locs ls hP hS hl)
theorem u_icmp_eq (C : Cx κ y own cc nL ret d) {x z : Int32} {off : Int} {tgt : Nat} (hd : decode cc pc = .ok (.if_icmp .eq off, 3)) (ht : (pc : Int) + off = (tgt : Int)) (kt : x = z → G κ y tgt L st M) (kf : ¬ x = z → G κ y (pc + 3) L st M) : G κ y pc L (.int z :: .int x :: st) M := by
  obtain ⟨p, l, e, R, s, m, args, below, meth, c, w, PQ⟩ := κ
  obtain ⟨hx, hb, hml, hown, hts, hK, hA, hlk, hr, hR, hN, hX⟩ := C
  subst hml
  intro H locs ls hP hS hl
  exact lv_icmp_eq hx hb hd ht (fun q => kt q H locs ls hP hS hl) (fun q => kf q H locs ls hP hS hl)
theorem u_if_ne (C : Cx κ y own cc nL ret d) {x : Int32} {off : Int} {tgt : Nat} (hd : decode cc pc = .ok (.ifCond .ne off, 3)) (ht : (pc : Int) + off = (tgt : Int)) (kt : ¬ x = 0 → G κ y tgt L st M) (kf : x = 0 → G κ y (pc + 3) L st M) : G κ y pc L (.int x :: st) M := by
  obtain ⟨p, l, e, R, s, m, args, below, meth, c, w, PQ⟩ := κ
  obtain ⟨hx, hb, hml, hown, hts, hK, hA, hlk, hr, hR, hN, hX⟩ := C
  subst hml
  intro H locs ls hP hS hl
  exact lv_if_ne hx hb hd ht (fun q => kt q H locs ls hP hS hl) (fun q => kf q H locs ls hP hS hl)
theorem u_icmp_ne (C : Cx κ y own cc nL ret d) {x z : Int32} {off : Int} {tgt : Nat} (hd : decode cc pc = .ok (.if_icmp .ne off, 3)) (ht : (pc : Int) + off = (tgt : Int)) (kt : ¬ x = z → G κ y tgt L st M) (kf : x = z → G κ y (pc + 3) L st M) : G κ y pc L (.int z :: .int x :: st) M := by
  obtain ⟨p, l, e, R, s, m, args, below, meth, c, w, PQ⟩ := κ
  obtain ⟨hx, hb, hml, hown, hts, hK, hA, hlk, hr, hR, hN, hX⟩ := C
  subst hml
  intro H locs ls hP hS hl
  exact lv_icmp_ne hx hb hd ht (fun q => kt q H locs ls hP hS hl) (fun q => kf q H locs ls hP hS hl)
theorem u_if_lt (C : Cx κ y own cc nL ret d) {x : Int32} {off : Int} {tgt : Nat} (hd : decode cc pc = .ok (.ifCond .lt off, 3)) (ht : (pc : Int) + off = (tgt : Int)) (kt : x < 0 → G κ y tgt L st M) (kf : ¬ x < 0 → G κ y (pc + 3) L st M) : G κ y pc L (.int x :: st) M := by
  obtain ⟨p, l, e, R, s, m, args, below, meth, c, w, PQ⟩ := κ
  obtain ⟨hx, hb, hml, hown, hts, hK, hA, hlk, hr, hR, hN, hX⟩ := C
  subst hml
  intro H locs ls hP hS hl
  exact lv_if_lt hx hb hd ht (fun q => kt q H locs ls hP hS hl) (fun q => kf q H locs ls hP hS hl)
theorem u_icmp_lt (C : Cx κ y own cc nL ret d) {x z : Int32} {off : Int} {tgt : Nat} (hd : decode cc pc = .ok (.if_icmp .lt off, 3)) (ht : (pc : Int) + off = (tgt : Int)) (kt : x < z → G κ y tgt L st M) (kf : ¬ x < z → G κ y (pc + 3) L st M) : G κ y pc L (.int z :: .int x :: st) M := by
  obtain ⟨p, l, e, R, s, m, args, below, meth, c, w, PQ⟩ := κ
  obtain ⟨hx, hb, hml, hown, hts, hK, hA, hlk, hr, hR, hN, hX⟩ := C
  subst hml
  intro H locs ls hP hS hl
  exact lv_icmp_lt hx hb hd ht (fun q => kt q H locs ls hP hS hl) (fun q => kf q H locs ls hP hS hl)
theorem u_if_ge (C : Cx κ y own cc nL ret d) {x : Int32} {off : Int} {tgt : Nat} (hd : decode cc pc = .ok (.ifCond .ge off, 3)) (ht : (pc : Int) + off = (tgt : Int)) (kt : 0 ≤ x → G κ y tgt L st M) (kf : ¬ 0 ≤ x → G κ y (pc + 3) L st M) : G κ y pc L (.int x :: st) M := by
  obtain ⟨p, l, e, R, s, m, args, below, meth, c, w, PQ⟩ := κ
  obtain ⟨hx, hb, hml, hown, hts, hK, hA, hlk, hr, hR, hN, hX⟩ := C
  subst hml
  intro H locs ls hP hS hl
  exact lv_if_ge hx hb hd ht (fun q => kt q H locs ls hP hS hl) (fun q => kf q H locs ls hP hS hl)
theorem u_icmp_ge (C : Cx κ y own cc nL ret d) {x z : Int32} {off : Int} {tgt : Nat} (hd : decode cc pc = .ok (.if_icmp .ge off, 3)) (ht : (pc : Int) + off = (tgt : Int)) (kt : z ≤ x → G κ y tgt L st M) (kf : ¬ z ≤ x → G κ y (pc + 3) L st M) : G κ y pc L (.int z :: .int x :: st) M := by
  obtain ⟨p, l, e, R, s, m, args, below, meth, c, w, PQ⟩ := κ
  obtain ⟨hx, hb, hml, hown, hts, hK, hA, hlk, hr, hR, hN, hX⟩ := C
  subst hml
  intro H locs ls hP hS hl
  exact lv_icmp_ge hx hb hd ht (fun q => kt q H locs ls hP hS hl) (fun q => kf q H locs ls hP hS hl)
theorem u_if_gt (C : Cx κ y own cc nL ret d) {x : Int32} {off : Int} {tgt : Nat} (hd : decode cc pc = .ok (.ifCond .gt off, 3)) (ht : (pc : Int) + off = (tgt : Int)) (kt : 0 < x → G κ y tgt L st M) (kf : ¬ 0 < x → G κ y (pc + 3) L st M) : G κ y pc L (.int x :: st) M := by
  obtain ⟨p, l, e, R, s, m, args, below, meth, c, w, PQ⟩ := κ
  obtain ⟨hx, hb, hml, hown, hts, hK, hA, hlk, hr, hR, hN, hX⟩ := C
  subst hml
  intro H locs ls hP hS hl
  exact lv_if_gt hx hb hd ht (fun q => kt q H locs ls hP hS hl) (fun q => kf q H locs ls hP hS hl)
theorem u_icmp_gt (C : Cx κ y own cc nL ret d) {x z : Int32} {off : Int} {tgt : Nat} (hd : decode cc pc = .ok (.if_icmp .gt off, 3)) (ht : (pc : Int) + off = (tgt : Int)) (kt : z < x → G κ y tgt L st M) (kf : ¬ z < x → G κ y (pc + 3) L st M) : G κ y pc L (.int z :: .int x :: st) M := by
  obtain ⟨p, l, e, R, s, m, args, below, meth, c, w, PQ⟩ := κ
  obtain ⟨hx, hb, hml, hown, hts, hK, hA, hlk, hr, hR, hN, hX⟩ := C
  subst hml
  intro H locs ls hP hS hl
  exact lv_icmp_gt hx hb hd ht (fun q => kt q H locs ls hP hS hl) (fun q => kf q H locs ls hP hS hl)
theorem u_if_le (C : Cx κ y own cc nL ret d) {x : Int32} {off : Int} {tgt : Nat} (hd : decode cc pc = .ok (.ifCond .le off, 3)) (ht : (pc : Int) + off = (tgt : Int)) (kt : x ≤ 0 → G κ y tgt L st M) (kf : ¬ x ≤ 0 → G κ y (pc + 3) L st M) : G κ y pc L (.int x :: st) M := by
  obtain ⟨p, l, e, R, s, m, args, below, meth, c, w, PQ⟩ := κ
  obtain ⟨hx, hb, hml, hown, hts, hK, hA, hlk, hr, hR, hN, hX⟩ := C
  subst hml
  intro H locs ls hP hS hl
  exact lv_if_le hx hb hd ht (fun q => kt q H locs ls hP hS hl) (fun q => kf q H locs ls hP hS hl)
theorem u_icmp_le (C : Cx κ y own cc nL ret d) {x z : Int32} {off : Int} {tgt : Nat} (hd : decode cc pc = .ok (.if_icmp .le off, 3)) (ht : (pc : Int) + off = (tgt : Int)) (kt : x ≤ z → G κ y tgt L st M) (kf : ¬ x ≤ z → G κ y (pc + 3) L st M) : G κ y pc L (.int z :: .int x :: st) M := by
  obtain ⟨p, l, e, R, s, m, args, below, meth, c, w, PQ⟩ := κ
  obtain ⟨hx, hb, hml, hown, hts, hK, hA, hlk, hr, hR, hN, hX⟩ := C
  subst hml
  intro H locs ls hP hS hl
  exact lv_icmp_le hx hb hd ht (fun q => kt q H locs ls hP hS hl) (fun q => kf q H locs ls hP hS hl)
theorem u_goto (C : Cx κ y own cc nL ret d) {off : Int} {tgt : Nat} (hd : decode cc pc = .ok (.goto off, 3)) (ht : (pc : Int) + off = (tgt : Int)) (kk : G κ y tgt L st M) : G κ y pc L (st) M := by
  obtain ⟨p, l, e, R, s, m, args, below, meth, c, w, PQ⟩ := κ
  obtain ⟨hx, hb, hml, hown, hts, hK, hA, hlk, hr, hR, hN, hX⟩ := C
  subst hml
  intro H locs ls hP hS hl
  exact lv_goto hx hb hd ht (kk H locs ls hP hS hl)
theorem u_tsOut (C : Cx κ y own cc nL ret d) {dflt lo hi : Int} {offs : Array Int} {len : Nat} {x : Int32} {tgt : Nat} (hd : decode cc pc = .ok (.tableswitch dflt lo hi offs, len)) (h : x.toInt < lo ∨ hi < x.toInt) (ht : (pc : Int) + dflt = (tgt : Int)) (kk : G κ y tgt L st M) : G κ y pc L (.int x :: st) M := by
  obtain ⟨p, l, e, R, s, m, args, below, meth, c, w, PQ⟩ := κ
  obtain ⟨hx, hb, hml, hown, hts, hK, hA, hlk, hr, hR, hN, hX⟩ := C
  subst hml
  intro H locs ls hP hS hl
  exact lv_tableOut hx hb hd h ht (kk H locs ls hP hS hl)
theorem u_tsIn (C : Cx κ y own cc nL ret d) {dflt lo hi : Int} {offs : Array Int} {len : Nat} {x : Int32} {off : Int} {tgt : Nat} (hd : decode cc pc = .ok (.tableswitch dflt lo hi offs, len)) (h1 : ¬ x.toInt < lo) (h2 : ¬ hi < x.toInt) (ho : offs[(x.toInt - lo).toNat]? = some off) (ht : (pc : Int) + off = (tgt : Int)) (kk : G κ y tgt L st M) : G κ y pc L (.int x :: st) M := by
  obtain ⟨p, l, e, R, s, m, args, below, meth, c, w, PQ⟩ := κ
  obtain ⟨hx, hb, hml, hown, hts, hK, hA, hlk, hr, hR, hN, hX⟩ := C
  subst hml
  intro H locs ls hP hS hl
  exact lv_tableIn hx hb hd h1 h2 ho ht (kk H locs ls hP hS hl)
theorem u_null (C : Cx κ y own cc nL ret d) (hd : decode cc pc = .ok (.aconst_null, 1)) (kk : G κ y (pc + 1) L (.null :: st) M) : G κ y pc L (st) M := by
  obtain ⟨p, l, e, R, s, m, args, below, meth, c, w, PQ⟩ := κ
  obtain ⟨hx, hb, hml, hown, hts, hK, hA, hlk, hr, hR, hN, hX⟩ := C
  subst hml
  intro H locs ls hP hS hl
  exact lv_null hx hb hd (kk H locs ls hP hS hl)
theorem u_nonnull (C : Cx κ y own cc nL ret d) {x : Nat} {off : Int} {tgt : Nat} (hd : decode cc pc = .ok (.ifnonnull off, 3)) (ht : (pc : Int) + off = (tgt : Int)) (kk : G κ y tgt L st M) : G κ y pc L (.ref x :: st) M := by
  obtain ⟨p, l, e, R, s, m, args, below, meth, c, w, PQ⟩ := κ
  obtain ⟨hx, hb, hml, hown, hts, hK, hA, hlk, hr, hR, hN, hX⟩ := C
  subst hml
  intro H locs ls hP hS hl
  exact lv_ifnonnull hx hb hd ht (kk H locs ls hP hS hl)
theorem u_nonnullN (C : Cx κ y own cc nL ret d) {off : Int} (hd : decode cc pc = .ok (.ifnonnull off, 3)) (kk : G κ y (pc + 3) L st M) : G κ y pc L (.null :: st) M := by
  obtain ⟨p, l, e, R, s, m, args, below, meth, c, w, PQ⟩ := κ
  obtain ⟨hx, hb, hml, hown, hts, hK, hA, hlk, hr, hR, hN, hX⟩ := C
  subst hml
  intro H locs ls hP hS hl
  exact lv_ifnonnullN hx hb hd (kk H locs ls hP hS hl)
theorem u_astore_nN (C : Cx κ y own cc nL ret d) {k : Fin 4} (hd : decode cc pc = .ok (.astore_n k, 1)) (ho : (decide ((k : Nat) < L.length) && decide ((k : Nat) < nL) && okst L k) = true) (kk : ∀ L', L.set (k : Nat) (some .null) = L' → G κ y (pc + 1) L' st M) : G κ y pc L (.null :: st) M := by
  obtain ⟨p, l, e, R, s, m, args, below, meth, c, w, PQ⟩ := κ
  obtain ⟨hx, hb, hml, hown, hts, hK, hA, hlk, hr, hR, hN, hX⟩ := C
  subst hml
  intro H locs ls hP hS hl
  simp only [Bool.and_eq_true, decide_eq_true_eq] at ho
  exact lv_astore_nN hx hb hd rfl (lk_has.mp hl) ho.1.2 rfl (fun ls' hl' => kk _ rfl H locs ls' hP hS (lk_set ho.2 ho.1.1 hl'))
theorem u_astoreN (C : Cx κ y own cc nL ret d) {k : Nat} (hd : decode cc pc = .ok (.astore k, 2)) (ho : (decide ((k : Nat) < L.length) && decide ((k : Nat) < nL) && okst L k) = true) (kk : ∀ L', L.set (k : Nat) (some .null) = L' → G κ y (pc + 2) L' st M) : G κ y pc L (.null :: st) M := by
  obtain ⟨p, l, e, R, s, m, args, below, meth, c, w, PQ⟩ := κ
  obtain ⟨hx, hb, hml, hown, hts, hK, hA, hlk, hr, hR, hN, hX⟩ := C
  subst hml
  intro H locs ls hP hS hl
  simp only [Bool.and_eq_true, decide_eq_true_eq] at ho
  exact lv_astoreN hx hb hd (lk_has.mp hl) ho.1.2 rfl (fun ls' hl' => kk _ rfl H locs ls' hP hS (lk_set ho.2 ho.1.1 hl'))
theorem u_aloadN (C : Cx κ y own cc nL ret d) {i : Nat} (hd : decode cc pc = .ok (.aload i, 2)) (hi : L[i]? = some (some .null)) (kk : G κ y (pc + 2) L (.null :: st) M) : G κ y pc L (st) M := by
  obtain ⟨p, l, e, R, s, m, args, below, meth, c, w, PQ⟩ := κ
  obtain ⟨hx, hb, hml, hown, hts, hK, hA, hlk, hr, hR, hN, hX⟩ := C
  subst hml
  intro H locs ls hP hS hl
  exact lv_aloadN hx hb hd (hl.2.2 _ _ hi) (kk H locs ls hP hS hl)
end RG
end
section
/-! fields, arrays, calls, answers -/
theorem vp_inN {i : Int32} {n : Nat} (h : 0 ≤ i.toInt ∧ i.toInt < n) : vp_in i n := vp_in_iff.mpr h
theorem wl_lt {w : WD} {y : LY} {M : Mem} {H : Heap} {p : Nat} (hP : va_P w.2.1 cls0 (wl w y M) H) (h : p < y.1) : w.1 p < H.size := (hP p _ (wl_at h)).lt
theorem same_cls {ci : Nat} {q : vw_C} (h : cls0[ci]? = some q) : ∀ j, j < q.2.2 → (q.2.1 j).1 = q.1 := by
  match ci, h with
  | 0, h => cases h; exact (by decide +kernel : ∀ j, j < 5 → (F_K j).1 = R_K)
  | 1, h => cases h; exact (by decide +kernel : ∀ j, j < 7 → (F_E j).1 = R_E)
  | 2, h => cases h; exact (by decide +kernel : ∀ j, j < 15 → (F_G j).1 = R_G)
  | 3, h => cases h; exact (by decide +kernel : ∀ j, j < 7 → (F_Y j).1 = R_Y)
  | 4, h => cases h; exact (by decide +kernel : ∀ j, j < 4 → (F_O j).1 = R_O)
  | 5, h => cases h; exact (by decide +kernel : ∀ j, j < 5 → (F_P j).1 = R_P)
  | 6, h => cases h; exact (by decide +kernel : ∀ j, j < 8 → (F_R j).1 = R_R)
  | 7, h => cases h; exact (by decide +kernel : ∀ j, j < 8 → (F_T j).1 = R_T)
  | 8, h => cases h; exact (by decide +kernel : ∀ j, j < 16 → (F_L j).1 = R_L)
  | 9, h => cases h; exact (by decide +kernel : ∀ j, j < 35 → (F_M j).1 = R_M)
  | k + 10, h => simp [cls0] at h
section RH
variable {κ : KX} {y : LY} {own : String} {cc : ByteArray} {nL d pc : Nat} {ret : Option FieldType} {L L' : List (Option Value)} {st : List Value} {M : Mem}
theorem u_geti (C : Cx κ y own cc nL ret d) {idx ci j p : Nat} (hd : decode cc pc = .ok (.getfield idx, 3)) (hf : FW own idx ci j) (hs : sh y p 0 ci) (hk : (decide (fk ci j ≠ 1) && decide (j < nf ci)) = true) (kk : G κ y (pc + 3) L (.int (M.1 p j) :: st) M) : G κ y pc L (.ref p :: st) M := by
  obtain ⟨p_, l, e, R, s, m, args, below, meth, c, w, PQ⟩ := κ
  obtain ⟨hx, hb, hml, hown, hts, hK, hA, hlk, hr, hR, hN, hX⟩ := C
  simp only [Bool.and_eq_true, decide_eq_true_eq] at hk
  obtain ⟨hk1, hk2⟩ := hk
  obtain ⟨hs1, hs2⟩ := hs
  obtain ⟨q, hq, hf⟩ := hf
  obtain ⟨hN1, hin, -⟩ := cw_all hq hq
  intro H locs ls hP hS hl
  have he : (wl w y M)[p]? = some (w.1 p, .inr (ci, (List.range (nf ci)).map (fvl w y M p ci))) := by rw [wl_at hs1, ent_obj hs2]
  have hv : ((List.range (nf ci)).map (fvl w y M p ci))[j]? = some (.int (M.1 p j)) := by simp [hk2, fvl, hk1]
  rcases hf with hf | ⟨host, hf⟩
  · exact va_get (ci := ci) hx hb hts hin hown hK hP p he hq j (by rw [hN1]; exact hk2) (hts _ hf) (fun _ h => by rw [← same_cls hq j (by rw [hN1]; exact hk2)]; exact h) hv hd (kk H locs ls hP hS hl)
  · exact va_getN (ci := ci) hx hb hts hin hown hK hP p he hq j (by rw [hN1]; exact hk2) (va_Nw.use rfl (hN _ hf)) (fun _ h => by rw [← same_cls hq j (by rw [hN1]; exact hk2)]; exact h) hv hd (kk H locs ls hP hS hl)
theorem u_getr (C : Cx κ y own cc nL ret d) {idx ci j p r : Nat} (hd : decode cc pc = .ok (.getfield idx, 3)) (hf : FW own idx ci j) (hs : sh y p 0 ci) (hk : (decide (fk ci j = 1) && decide (j < nf ci)) = true) (hr9 : y.2.2 p j = r) (kk : G κ y (pc + 3) L (.ref r :: st) M) : G κ y pc L (.ref p :: st) M := by
  subst hr9
  obtain ⟨p_, l, e, R, s, m, args, below, meth, c, w, PQ⟩ := κ
  obtain ⟨hx, hb, hml, hown, hts, hK, hA, hlk, hr, hR, hN, hX⟩ := C
  simp only [Bool.and_eq_true, decide_eq_true_eq] at hk
  obtain ⟨hk1, hk2⟩ := hk
  obtain ⟨hs1, hs2⟩ := hs
  obtain ⟨q, hq, hf⟩ := hf
  obtain ⟨hN1, hin, -⟩ := cw_all hq hq
  intro H locs ls hP hS hl
  have he : (wl w y M)[p]? = some (w.1 p, .inr (ci, (List.range (nf ci)).map (fvl w y M p ci))) := by rw [wl_at hs1, ent_obj hs2]
  have hv : ((List.range (nf ci)).map (fvl w y M p ci))[j]? = some (.ref (w.1 (y.2.2 p j))) := by simp [hk2, fvl, hk1]
  rcases hf with hf | ⟨host, hf⟩
  · exact va_get (ci := ci) hx hb hts hin hown hK hP p he hq j (by rw [hN1]; exact hk2) (hts _ hf) (fun _ h => by rw [← same_cls hq j (by rw [hN1]; exact hk2)]; exact h) hv hd (kk H locs ls hP hS hl)
  · exact va_getN (ci := ci) hx hb hts hin hown hK hP p he hq j (by rw [hN1]; exact hk2) (va_Nw.use rfl (hN _ hf)) (fun _ h => by rw [← same_cls hq j (by rw [hN1]; exact hk2)]; exact h) hv hd (kk H locs ls hP hS hl)
theorem u_put (C : Cx κ y own cc nL ret d) {idx ci j p : Nat} {x : Int32} (hd : decode cc pc = .ok (.putfield idx, 3)) (hf : FW own idx ci j) (hs : sh y p 0 ci) (hk : (decide (fk ci j ≠ 1) && decide (j < nf ci)) = true) (hz : fk ci j = 0 ∨ (fk ci j = 2 ∧ (x = 0 ∨ x = 1))) (kk : G κ y (pc + 3) L st (up M p j x)) : G κ y pc L (.int x :: .ref p :: st) M := by
  obtain ⟨p_, l, e, R, s, m, args, below, meth, c, w, PQ⟩ := κ
  obtain ⟨hx, hb, hml, hown, hts, hK, hA, hlk, hr, hR, hN, hX⟩ := C
  simp only [Bool.and_eq_true, decide_eq_true_eq] at hk
  obtain ⟨hk1, hk2⟩ := hk
  obtain ⟨hs1, hs2⟩ := hs
  obtain ⟨q, hq, hf⟩ := hf
  obtain ⟨hN1, hin, hnm, ty0, hty, h0, h2⟩ := cw_all hq hq
  have hkN : j < q.2.2 := by rw [hN1]; exact hk2
  intro H locs ls hP hS hl
  have he : (wl w y M)[p]? = some (w.1 p, .inr (ci, (List.range (nf ci)).map (fvl w y M p ci))) := by rw [wl_at hs1, ent_obj hs2]
  have hty2 : (ty0 j = .int ∨ ty0 j = .boolean ∧ (x = 0 ∨ x = 1)) ∧ (q.2.1 j).2.2.2 = false := by
    rcases hz with hz | ⟨hz, hz2⟩
    · exact ⟨Or.inl (h0 j hkN hz).1, (h0 j hkN hz).2⟩
    · exact ⟨Or.inr ⟨(h2 j hkN hz).1, hz2⟩, (h2 j hkN hz).2⟩
  have hn : narrow (ty0 j) (.int x) = .int x := by
    rcases hty2.1 with h | ⟨h, rfl | rfl⟩ <;> rw [h] <;> rfl
  have hfit : fits (ty0 j) (.int x) = true := by
    rcases hty2.1 with h | ⟨h, rfl | rfl⟩ <;> rw [h] <;> rfl
  have hD : va_D (AW w y s.heap.size) (wl w y M) := wl_D hA (fun p hp => Or.inl ⟨p, hp, rfl⟩)
  have hlen : j < ((List.range (nf ci)).map (fvl w y M p ci)).length := by simpa using hk2
  have kk' : ∀ (H1 : Heap) (locs1 : List Loc), va_P w.2.1 cls0 ((wl w y M).set p (w.1 p, .inr (ci, ((List.range (nf ci)).map (fvl w y M p ci)).set j (.int x)))) H1 → va_D (AW w y s.heap.size) ((wl w y M).set p (w.1 p, .inr (ci, ((List.range (nf ci)).map (fvl w y M p ci)).set j (.int x)))) → va_S (AW w y s.heap.size) s.heap H1 locs1 → W p_ l e R s m args below meth c H1 locs1 0 0 (MQ below (QC w y PQ) args s 0 0 (AW w y s.heap.size)) (F0 m (pc + 3) ls (st.map (cv w.1))) := by
    intro H1 locs1 hP1 hD1 hS1
    rw [wl_put hs1 hs2 hk1 hk2] at hP1
    exact kk H1 locs1 ls hP1 hS1 hl
  rcases hf with hf | ⟨host, hf⟩
  · exact va_put (ci := ci) (v := .int x) (ty := ty0 j) hx hb hts hin ty0 hty hnm hown hK hP hD hS p he hq j hkN (hts _ hf) (fun _ h => by rw [← same_cls hq j hkN]; exact h) hty2.2 (hty j hkN) hn hfit hlen hd kk'
  · exact va_putN (ci := ci) (v := .int x) (ty := ty0 j) hx hb hts hin ty0 hty hnm hown hK hP hD hS p he hq j hkN (va_Nw.use rfl (hN _ hf)) (fun _ h => by rw [← same_cls hq j hkN]; exact h) hty2.2 (hty j hkN) hn hfit hlen hd kk'
theorem u_iald (C : Cx κ y own cc nL ret d) {p n : Nat} {i : Int32} (hd : decode cc pc = .ok (.iaload, 1)) (hs : sh y p 1 n) (hi : vp_in i n) (kk : G κ y (pc + 1) L (.int (M.1 p i.toNatClampNeg) :: st) M) : G κ y pc L (.int i :: .ref p :: st) M := by
  obtain ⟨p_, l, e, R, s, m, args, below, meth, c, w, PQ⟩ := κ
  obtain ⟨hx, hb, hml, hown, hts, hK, hA, hlk, hr, hR, hN, hX⟩ := C
  intro H locs ls hP hS hl
  exact va_iald hx hb hK hP p 0 (by rw [wl_at hs.1, ent_int hs.2]) rfl hi hd (kk H locs ls hP hS hl)
theorem u_lald (C : Cx κ y own cc nL ret d) {p n : Nat} {i : Int32} (hd : decode cc pc = .ok (.laload, 1)) (hs : sh y p 2 n) (hi : vp_in i n) (kk : G κ y (pc + 1) L (.long (M.2 p i.toNatClampNeg) :: st) M) : G κ y pc L (.int i :: .ref p :: st) M := by
  obtain ⟨p_, l, e, R, s, m, args, below, meth, c, w, PQ⟩ := κ
  obtain ⟨hx, hb, hml, hown, hts, hK, hA, hlk, hr, hR, hN, hX⟩ := C
  intro H locs ls hP hS hl
  exact va_lald hx hb hK hP p 1 (by rw [wl_at hs.1, ent_long hs.2]) rfl hi hd (kk H locs ls hP hS hl)
theorem u_aaldG (C : Cx κ y own cc nL ret d) {p n r : Nat} {i : Int32} (hd : decode cc pc = .ok (.aaload, 1)) (hs : sh y p 3 n) (hi : vp_in i n) (hr9 : y.2.2 p i.toNatClampNeg = r) (kk : G κ y (pc + 1) L (.ref r :: st) M) : G κ y pc L (.int i :: .ref p :: st) M := by
  subst hr9
  obtain ⟨p_, l, e, R, s, m, args, below, meth, c, w, PQ⟩ := κ
  obtain ⟨hx, hb, hml, hown, hts, hK, hA, hlk, hr, hR, hN, hX⟩ := C
  intro H locs ls hP hS hl
  have ha : (wl w y M)[p]? = some (w.1 p, .inl (w.2.2 2, n, .inr (.inr (.inr (.inr (fun j => some (w.1 (y.2.2 p j)))))))) := by rw [wl_at hs.1, ent_gam hs.2]
  exact va_aldq hx hb hK hP p 2 ha rfl hi hd (kk H locs ls hP hS hl)
theorem u_aaldR (C : Cx κ y own cc nL ret d) {p n r : Nat} {i : Int32} (hd : decode cc pc = .ok (.aaload, 1)) (hs : sh y p 4 n) (hi : vp_in i n) (hr9 : y.2.2 p i.toNatClampNeg = r) (kk : G κ y (pc + 1) L (.ref r :: st) M) : G κ y pc L (.int i :: .ref p :: st) M := by
  subst hr9
  obtain ⟨p_, l, e, R, s, m, args, below, meth, c, w, PQ⟩ := κ
  obtain ⟨hx, hb, hml, hown, hts, hK, hA, hlk, hr, hR, hN, hX⟩ := C
  intro H locs ls hP hS hl
  have hlt : i.toNatClampNeg < n := Nat.not_le.mp fun q => hi (Or.inr q)
  have ha : (wl w y M)[p]? = some (w.1 p, .inl (w.2.2 3, n, .inr (.inr (.inr (.inr (fun j => some (w.1 (y.2.2 p j)))))))) := by rw [wl_at hs.1, ent_row hs.2]
  exact W.aald (v := va_rf (some (w.1 (y.2.2 p i.toNatClampNeg)))) (ty := .array .int) hx hb (hP p _ ha) ((hK.2 3 _ rfl).1 n (fun j => va_rf (some (w.1 (y.2.2 p j))))) rfl (fun q => by cases q) (by show ¬ (i < 0 ∨ (arrV _ _ _).slots.size ≤ _); rw [arrV_size]; exact hi) (by show (arrV _ _ _).slots[_]? = _; rw [arrV_read _ _ hlt]) rfl rfl hd (kk H locs ls hP hS hl)
theorem u_alen (C : Cx κ y own cc nL ret d) {p n t : Nat} {v : Int32} (hd : decode cc pc = .ok (.arraylength, 1)) (hs : sh y p t n) (ht : (decide (0 < t) && decide (t < 5)) = true) (hv : Int32.ofNat n = v) (kk : G κ y (pc + 1) L (.int v :: st) M) : G κ y pc L (.ref p :: st) M := by
  obtain ⟨p_, l, e, R, s, m, args, below, meth, c, w, PQ⟩ := κ
  obtain ⟨hx, hb, hml, hown, hts, hK, hA, hlk, hr, hR, hN, hX⟩ := C
  simp only [Bool.and_eq_true, decide_eq_true_eq] at ht
  intro H locs ls hP hS hl
  obtain ⟨hs1, hs2⟩ := hs
  rcases (show t = 1 ∨ t = 2 ∨ t = 3 ∨ t = 4 by omega) with rfl | rfl | rfl | rfl
  · exact va_alen hx hb hK hP p 0 (by rw [wl_at hs1, ent_int hs2]) rfl hv hd (kk H locs ls hP hS hl)
  · exact va_alen hx hb hK hP p 1 (by rw [wl_at hs1, ent_long hs2]) rfl hv hd (kk H locs ls hP hS hl)
  · exact va_alen hx hb hK hP p 2 (by rw [wl_at hs1, ent_gam hs2]) rfl hv hd (kk H locs ls hP hS hl)
  · exact va_alen hx hb hK hP p 3 (by rw [wl_at hs1, ent_row hs2]) rfl hv hd (kk H locs ls hP hS hl)
theorem u_iast (C : Cx κ y own cc nL ret d) {p n : Nat} {i x : Int32} (hd : decode cc pc = .ok (.iastore, 1)) (hs : sh y p 1 n) (hi : vp_in i n) (kk : G κ y (pc + 1) L st (up M p i.toNatClampNeg x)) : G κ y pc L (.int x :: .int i :: .ref p :: st) M := by
  obtain ⟨p_, l, e, R, s, m, args, below, meth, c, w, PQ⟩ := κ
  obtain ⟨hx, hb, hml, hown, hts, hK, hA, hlk, hr, hR, hN, hX⟩ := C
  intro H locs ls hP hS hl
  have hD : va_D (AW w y s.heap.size) (wl w y M) := wl_D hA (fun p hp => Or.inl ⟨p, hp, rfl⟩)
  exact va_iast hx hb hK hP hD hS p 0 (by rw [wl_at hs.1, ent_int hs.2]) rfl hi hd (fun H1 locs1 hP1 hD1 hS1 => by
    rw [wl_ast hs.1 hs.2] at hP1
    exact kk H1 locs1 ls hP1 hS1 hl)
theorem u_last (C : Cx κ y own cc nL ret d) {p n : Nat} {i : Int32} {x : Int64} (hd : decode cc pc = .ok (.lastore, 1)) (hs : sh y p 2 n) (hi : vp_in i n) (kk : G κ y (pc + 1) L st (upl M p i.toNatClampNeg x)) : G κ y pc L (.long x :: .int i :: .ref p :: st) M := by
  obtain ⟨p_, l, e, R, s, m, args, below, meth, c, w, PQ⟩ := κ
  obtain ⟨hx, hb, hml, hown, hts, hK, hA, hlk, hr, hR, hN, hX⟩ := C
  intro H locs ls hP hS hl
  have hD : va_D (AW w y s.heap.size) (wl w y M) := wl_D hA (fun p hp => Or.inl ⟨p, hp, rfl⟩)
  exact va_last hx hb hK hP hD hS p 1 (by rw [wl_at hs.1, ent_long hs.2]) rfl hi hd (fun H1 locs1 hP1 hD1 hS1 => by
    rw [wl_last hs.1 hs.2] at hP1
    exact kk H1 locs1 ls hP1 hS1 hl)
/-- System.arraycopy of n ints from 0 to 0 -/
theorem u_copy (C : Cx κ y own cc nL ret d) {idx p0 p N0 N : Nat} {n : Int32} (hd : decode cc pc = .ok (.invokestatic idx, 3)) (hw : Cond.methodLink own idx arraycopyName ∈ tbl) (hw2 : Cond.native arraycopyName ∈ tbl) (hw3 : Cond.static arraycopyName ∈ tbl) (hw4 : Cond.initialized "java/lang/System" ∈ tbl) (hs0 : sh y p0 1 N0) (hs : sh y p 1 N) (h3 : ¬ n < 0) (h4 : n.toNatClampNeg ≤ N0) (h5 : n.toNatClampNeg ≤ N) (hd1 : 0 < d) (kk : G κ y (pc + 3) L [] (cpr M p0 p n.toNatClampNeg)) : G κ y pc L [.int n, .int 0, .ref p, .int 0, .ref p0] M := by
  obtain ⟨p_, l, e, R, s, m, args, below, meth, c, w, PQ⟩ := κ
  obtain ⟨hx, hb, hml, hown, hts, hK, hA, hlk, hr, hR, hN, hX⟩ := C
  subst hR
  intro H locs ls hP hS hl
  have hD : va_D (AW w y s.heap.size) (wl w y M) := wl_D hA (fun p hp => Or.inl ⟨p, hp, rfl⟩)
  refine va_copyi (rest := []) hx hb hl.1.symm hown (hts _ hw) (hts _ hw2) (hts _ hw3) (hts _ hw4) hK hP hD hS p0 p 0 0 (by rw [wl_at hs0.1, ent_int hs0.2]) (by rw [wl_at hs.1, ent_int hs.2]) rfl rfl rfl (by decide) (by decide) h3 (by simpa using h4) (by simpa using h5) (fun i _ => rfl) hd1 ?_ hd (fun H1 locs1 hP1 hD1 hS1 => ?_)
  · show 0 + (nativeFrameWords "java/lang/System" "arraycopy" 5 + 11) ≤ d * 60
    have : nativeFrameWords "java/lang/System" "arraycopy" 5 + 11 ≤ 60 := by decide +kernel
    omega
  · rw [show (0 : Int32).toNatClampNeg = 0 from rfl, wl_cpr hs.1 hs.2] at hP1
    exact kk H1 locs1 ls hP1 hS1 hl
theorem st_sum (ad : Nat → Nat) (st : List Value) : ((st.map (cv ad)).map fun v => v.category).sum = (st.map fun v => v.category).sum := by
  rw [List.map_map]
  congr 2
  funext v
  exact cv_cat ad v
theorem u_mmax (C : Cx κ y own cc nL ret d) {idx : Nat} {x z : Int32} (hd : decode cc pc = .ok (.invokestatic idx, 3)) (hw : Cond.methodLink own idx Lib.Math.max.name ∈ tbl) (hw2 : Cond.static Lib.Math.max.name ∈ tbl) (hw3 : Cond.initialized "java/lang/Math" ∈ tbl) (hw4 : Cond.code Lib.Math.max.name Lib.Math.max.code 2 (some .int) ∈ tbl) (hroom : (st.map fun v => v.category).sum ≤ 8) (hd1 : 0 < d) (kk : G κ y (pc + 3) L (.int (if x < z then z else x) :: st) M) : G κ y pc L (.int z :: .int x :: st) M := by
  obtain ⟨p_, l, e, R, s, m, args, below, meth, c, w, PQ⟩ := κ
  obtain ⟨hx, hb, hml, hown, hts, hK, hA, hlk, hr, hR, hN, hX⟩ := C
  subst hR
  intro H locs ls hP hS hl
  exact va_mmax hx hb hl.1.symm hown (hts _ hw) (hts _ hw2) (hts _ hw3) (hts _ hw4) (show 1 ≤ (rmd d).frames from hd1) (by rw [st_sum]; show _ ≤ d * 60; omega) (Nat.zero_le _) (Nat.zero_le _) hd (kk H locs ls hP hS hl)
theorem u_mmin (C : Cx κ y own cc nL ret d) {idx : Nat} {x z : Int32} (hd : decode cc pc = .ok (.invokestatic idx, 3)) (hw : Cond.methodLink own idx Lib.Math.min.name ∈ tbl) (hw2 : Cond.static Lib.Math.min.name ∈ tbl) (hw3 : Cond.initialized "java/lang/Math" ∈ tbl) (hw4 : Cond.code Lib.Math.min.name Lib.Math.min.code 2 (some .int) ∈ tbl) (hroom : (st.map fun v => v.category).sum ≤ 8) (hd1 : 0 < d) (kk : G κ y (pc + 3) L (.int (if z < x then z else x) :: st) M) : G κ y pc L (.int z :: .int x :: st) M := by
  obtain ⟨p_, l, e, R, s, m, args, below, meth, c, w, PQ⟩ := κ
  obtain ⟨hx, hb, hml, hown, hts, hK, hA, hlk, hr, hR, hN, hX⟩ := C
  subst hR
  intro H locs ls hP hS hl
  exact va_mmin hx hb hl.1.symm hown (hts _ hw) (hts _ hw2) (hts _ hw3) (hts _ hw4) (show 1 ≤ (rmd d).frames from hd1) (by rw [st_sum]; show _ ≤ d * 60; omega) (Nat.zero_le _) (Nat.zero_le _) hd (kk H locs ls hP hS hl)
/-- answers -/
theorem u_iret (C : Cx κ y own cc nL (some .int) d) {v : Int32} (hd : decode cc pc = .ok (.ireturn, 1)) (hQ : KQ κ (some (.int v)) M) : G κ y pc L [.int v] M := by
  obtain ⟨p_, l, e, R, s, m, args, below, meth, c, w, PQ⟩ := κ
  obtain ⟨hx, hb, hml, hown, hts, hK, hA, hlk, hr, hR, hN, hX⟩ := C
  intro H locs ls hP hS hl
  exact W.iret (v := v) hx hb hr (fun t ht hW => ⟨⟨some (.int v), M, rfl, hQ, by rw [ht]; exact hP⟩, hS.F ht⟩) hS.2.2 hd hlk
theorem u_zret (C : Cx κ y own cc nL (some .boolean) d) {v : Int32} (hd : decode cc pc = .ok (.ireturn, 1)) (hz : v = 0 ∨ v = 1) (hQ : KQ κ (some (.int v)) M) : G κ y pc L [.int v] M := by
  obtain ⟨p_, l, e, R, s, m, args, below, meth, c, w, PQ⟩ := κ
  obtain ⟨hx, hb, hml, hown, hts, hK, hA, hlk, hr, hR, hN, hX⟩ := C
  intro H locs ls hP hS hl
  exact W.zret (v := v) hx hb hr (by rcases hz with rfl | rfl <;> rfl) (fun t ht hW => ⟨⟨some (.int v), M, rfl, hQ, by rw [ht]; exact hP⟩, hS.F ht⟩) hS.2.2 hd hlk
theorem u_vret (C : Cx κ y own cc nL none d) (hd : decode cc pc = .ok (.return_, 1)) (hQ : KQ κ none M) : G κ y pc L [] M := by
  obtain ⟨p_, l, e, R, s, m, args, below, meth, c, w, PQ⟩ := κ
  obtain ⟨hx, hb, hml, hown, hts, hK, hA, hlk, hr, hR, hN, hX⟩ := C
  intro H locs ls hP hS hl
  exact W.vret hx hb hr (fun t ht hW => ⟨⟨none, M, rfl, hQ, by rw [ht]; exact hP⟩, hS.F ht⟩) hS.2.2 hd hlk
theorem u_aret {nm : String} (C : Cx κ y own cc nL (some (.object nm)) d) {p : Nat} (hd : decode cc pc = .ok (.areturn, 1)) (hQ : KQ κ (some (.ref p)) M) : G κ y pc L [.ref p] M := by
  obtain ⟨p_, l, e, R, s, m, args, below, meth, c, w, PQ⟩ := κ
  obtain ⟨hx, hb, hml, hown, hts, hK, hA, hlk, hr, hR, hN, hX⟩ := C
  intro H locs ls hP hS hl
  exact W.aret (v := .ref (w.1 p)) hx hb hr (Or.inl ⟨_, rfl⟩) (Or.inr ⟨_, rfl⟩) (fun t ht hW => ⟨⟨some (.ref p), M, rfl, hQ, by rw [ht]; exact hP⟩, hS.F ht⟩) hS.2.2 hd hlk
/-- calls -/
theorem gi_tbl {a b : Cond} (hb : b ∈ tbl) : GoodIn tbl (b :: tbl) := by
  intro w hw
  rcases List.mem_cons.mp hw with rfl | hw
  · exact ⟨hb, good_of_word (List.mem_filter.mp hb).2⟩
  · exact ⟨hw, good_of_word (List.mem_filter.mp hw).2⟩
theorem AW_of {w : WD} {y : LY} {a b : Nat} (h : a ≤ b) (q : Nat) (hq : AW w y b q) : AW w y a q := by
  rcases hq with hq | hq
  · exact Or.inl hq
  · exact Or.inr (Nat.le_trans h hq)
theorem u_call_after {p : Program} {l : Launch} {e : Env} {R : Room} {s : State} {m : MethodId} {args : Array Value} {below : List Frame} {meth : Method} {c : Code} {w : WD} {PQ PQ2 : Option Value → Mem → Prop} {H : Heap} {locs : List Loc} {ls : Array Slot} {a : Array Value} {stk rest : List Value}
    (hrun : va_Run p l e R s m args below meth c H locs 0 0 0 0 (F0 m pc ls stk) (rest.map (cv w.1)) (QC w y PQ2 a) (AW w y H.size)) (hS : va_S (AW w y s.heap.size) s.heap H locs) (hl : lk w.1 c.maxLocals ls L)
    (kk : ∀ v M', PQ2 v M' → G (p, l, e, R, s, m, args, below, meth, c, w, PQ) y (pc + 3) L (v.toList ++ rest) M') : W p l e R s m args below meth c H locs 0 0 (MQ below (QC w y PQ) args s 0 0 (AW w y s.heap.size)) (F0 m pc ls stk) := by
  intro T hT X
  obtain ⟨v, st₀, t, T', L2, h0, X', hL, e1, e2, ⟨⟨vv, M', hv, hq, hP'⟩, hz, hk⟩, stp⟩ := hrun T hT X
  cases hv
  rw [h0] at hz hk
  have hS' : va_S (AW w y s.heap.size) s.heap T'.heap (locs ++ L2) := ⟨Nat.le_trans hS.1 (by rw [e1]; exact hz), fun q h1 h2 => by rw [e1, hk q (Nat.lt_of_lt_of_le h1 hS.1) (fun z => h2 (AW_of hS.1 q z))]; exact hS.2.1 q h1 h2, fun q hq => by
      rcases List.mem_append.mp hq with h | h
      · exact hS.2.2 q h
      · exact AW_of hS.1 _ (hL q h)⟩
  obtain ⟨t2, a1, b1⟩ := kk vv M' hq T'.heap (locs ++ L2) ls (by rw [e1]; exact hP') hS' hl T' rfl X'
  refine ⟨t2, stp t2 ?_, b1⟩
  have e9 : (Option.map (cv w.1) vv).toList ++ rest.map (cv w.1) = (vv.toList ++ rest).map (cv w.1) := by cases vv <;> simp
  rw [e9]
  exact a1
theorem BX_of {w : WD} {s U : State} {H : Heap} {locs : List Loc} (hU : U.heap = H) (hW : s.WarmedH U.vm) (hP : va_P w.2.1 cls0 (wl w y M) H) (hK : va_K w.2.1 cls0 (tys w) s) (hA : adi w y) (hN : NX s) (hX : SX w (AW w y s.heap.size) s s.heap) (hS : va_S (AW w y s.heap.size) s.heap H locs) : BX w y M U := by
  refine ⟨by rw [hU]; exact hP, va_K.moved hW.alike hK, hA, hN.warm hW, ?_⟩
  rw [hU]
  exact ((hX.kept hS.2.1).narrow (fun q hq => AW_of hS.1 q hq)).warm hW
theorem u_callS (C : Cx κ y own cc nL ret d) {idx : Nat} {x : MethodName} {cc2 : ByteArray} {nL2 d2 n : Nat} {ret2 : Option FieldType} {As stk : List Value} {PQ2 : Option Value → Mem → Prop} (hd : decode cc pc = .ok (.invokestatic idx, 3)) (mx : MX x cc2 nL2 ret2 n true) (mw : MW own idx x) (h : Ct y x cc2 nL2 ret2 d2 As M PQ2) (hn : (decide (As.length = n) && decide (d2 < d) && decide (nL2 ≤ 40)) = true) (hst : As.reverse ++ st = stk) (hroom : (st.map fun v => v.category).sum ≤ 8) (kk : ∀ v M', PQ2 v M' → G κ y (pc + 3) L (v.toList ++ st) M') : G κ y pc L stk M := by
  subst hst
  obtain ⟨p_, l, e, R, s, m, args, below, meth, c, w, PQ⟩ := κ
  obtain ⟨hx, hb, hml, hown, hts, hK, hA, hlk, hr, hR, hN, hX⟩ := C
  simp only [Bool.and_eq_true, decide_eq_true_eq] at hn
  obtain ⟨⟨hn1, hn2⟩, hn3⟩ := hn
  obtain ⟨mx1, mx2, mx3, mx4, mx5⟩ := mx
  rw [if_pos rfl] at mx5
  subst hR
  intro H locs ls hP hS hl
  have hR2 : (rmd d2).frames + 1 ≤ (rmd d).frames ∧ 8 + (nL2 + 11) + (rmd d2).locals ≤ (rmd d).locals := by
    refine ⟨hn2, ?_⟩
    show 8 + (nL2 + 11) + d2 * 60 ≤ d * 60
    omega
  have hpre : PreS s H (va_Pc (As.map (cv w.1)) (fun U => U.heap.size = H.size ∧ BX w y M U)) (As.map (cv w.1)) := ⟨BX_blind, fun U hU hW => ⟨rfl, by rw [hU], BX_of hU hW hP hK hA hN hX hS⟩⟩
  have hstk : (F0 m pc ls ((As.reverse ++ st).map (cv w.1))).stack = (As.map (cv w.1)).reverse ++ st.map (cv w.1) := by simp
  have hlen : (As.map (cv w.1)).length = n := by simpa using hn1
  have hrm : 2 * (F0 m pc ls ((As.reverse ++ st).map (cv w.1))).monitorRoom + ((st.map (cv w.1)).map fun v => v.category).sum ≤ 8 := lv_room (by rw [st_sum]; exact hroom)
  rcases mw with hw | ⟨host, hw⟩
  · have cb : CallB (rmd d) s args own idx x cc2 nL2 ret2 (Cond.code x cc2 nL2 ret2 :: tbl) (rmd d2) 0 0 n := callB_of n hts (gi_tbl (a := Cond.tt) mx1) rfl rfl rfl (hts _ mx2) (hts _ hw) mx4 hR2
    exact u_call_after (va_runS (nL := nL) ⟨hx, hb, hml, hown, hts⟩ (h l w H.size) ⟨cb, hts _ mx5⟩ hpre rfl hlen (by rw [← hml]; exact hl.1) hstk hrm hd ⟨Nat.le_refl _, Nat.le_refl _⟩) hS hl kk
  · exact u_call_after (va_runSN (nL := nL) ⟨hx, hb, hml, hown, hts⟩ (h l w H.size) ⟨va_cnB n hts (gi_tbl (a := Cond.tt) mx1) rfl rfl rfl (hN _ hw) (hts _ mx2) mx4 hR2, hts _ mx5, trivial⟩ hpre rfl hlen (by rw [← hml]; exact hl.1) hstk hrm hd ⟨Nat.le_refl _, Nat.le_refl _⟩) hS hl kk
theorem u_callV (C : Cx κ y own cc nL ret d) {idx p ci : Nat} {x : MethodName} {cc2 : ByteArray} {nL2 d2 n : Nat} {ret2 : Option FieldType} {As stk : List Value} {PQ2 : Option Value → Mem → Prop} (hd : decode cc pc = .ok (.invokevirtual idx, 3)) (mx : MX x cc2 nL2 ret2 n false) (mw : MW own idx x) (hs : sh y p 0 ci) (hci : (cls0[ci]?).map (fun q => q.1) = some x.cls) (h : Ct y x cc2 nL2 ret2 d2 (.ref p :: As) M PQ2) (hn : (decide (As.length = n) && decide (d2 < d) && decide (nL2 ≤ 40)) = true) (hst : As.reverse ++ .ref p :: st = stk) (hroom : (st.map fun v => v.category).sum ≤ 8) (kk : ∀ v M', PQ2 v M' → G κ y (pc + 3) L (v.toList ++ st) M') : G κ y pc L stk M := by
  subst hst
  obtain ⟨p_, l, e, R, s, m, args, below, meth, c, w, PQ⟩ := κ
  obtain ⟨hx, hb, hml, hown, hts, hK, hA, hlk, hr, hR, hN, hX⟩ := C
  simp only [Bool.and_eq_true, decide_eq_true_eq] at hn
  obtain ⟨⟨hn1, hn2⟩, hn3⟩ := hn
  obtain ⟨mx1, mx2, mx3, mx4, mx5⟩ := mx
  rw [if_neg (by decide)] at mx5
  subst hR
  intro H locs ls hP hS hl
  have hR2 : (rmd d2).frames + 1 ≤ (rmd d).frames ∧ 8 + (nL2 + 11) + (rmd d2).locals ≤ (rmd d).locals := by
    refine ⟨hn2, ?_⟩
    show 8 + (nL2 + 11) + d2 * 60 ≤ d * 60
    omega
  obtain ⟨q, hq, hq2⟩ := Option.map_eq_some_iff.mp hci
  have hrecv : ∃ cell : Cell, H[w.1 p]? = some cell ∧ cell.vm.isStatics = false ∧ s.vm.findClass x.cls = some cell.cls := by
    rw [← hq2]
    exact va_recv hK hP hq (q0 := p) (by rw [wl_at hs.1, ent_obj hs.2])
  have hpre : PreV s H x.cls (w.1 p) (va_Pc ((Value.ref p :: As).map (cv w.1)) (fun U => U.heap.size = H.size ∧ BX w y M U)) (As.map (cv w.1)) := ⟨BX_blind, hrecv, fun U hU hW => ⟨rfl, by rw [hU], BX_of hU hW hP hK hA hN hX hS⟩⟩
  have hstk : (F0 m pc ls ((As.reverse ++ .ref p :: st).map (cv w.1))).stack = (As.map (cv w.1)).reverse ++ .ref (w.1 p) :: st.map (cv w.1) := by simp [cv]
  have hlen : (As.map (cv w.1)).length = n := by simpa using hn1
  have hrm : 2 * (F0 m pc ls ((As.reverse ++ .ref p :: st).map (cv w.1))).monitorRoom + ((st.map (cv w.1)).map fun v => v.category).sum ≤ 8 := lv_room (by rw [st_sum]; exact hroom)
  rcases mw with hw | ⟨host, hw⟩
  · have cb : CallB (rmd d) s args own idx x cc2 nL2 ret2 (Cond.code x cc2 nL2 ret2 :: tbl) (rmd d2) 0 0 n := callB_of n hts (gi_tbl (a := Cond.tt) mx1) rfl rfl rfl (hts _ mx2) (hts _ hw) mx4 hR2
    exact u_call_after (va_runV (nL := nL) ⟨hx, hb, hml, hown, hts⟩ (h l w H.size) ⟨cb, hts _ mx5.1, hts _ mx5.2⟩ hpre rfl hlen (by rw [← hml]; exact hl.1) hstk hrm hd ⟨Nat.le_refl _, Nat.le_refl _⟩) hS hl kk
  · exact u_call_after (va_runVN (nL := nL) ⟨hx, hb, hml, hown, hts⟩ (h l w H.size) ⟨va_cnB n hts (gi_tbl (a := Cond.tt) mx1) rfl rfl rfl (hN _ hw) (hts _ mx2) mx4 hR2, hts _ mx5.1, hts _ mx5.2⟩ hpre rfl hlen (by rw [← hml]; exact hl.1) hstk hrm hd ⟨Nat.le_refl _, Nat.le_refl _⟩) hS hl kk
end RH
end
section
/-! LAYOUTS of the two systems; forms of contracts -/
def gp (k : Nat) : Nat := 6 + 7 * k
def yp (k : Nat) : Nat := 49 + 5 * k
def ep (k : Nat) : Nat := 59 + 2 * k
def op (k : Nat) : Nat := 63 + 3 * k
def shCl : List (Nat × Nat) := [(0, 0), (1, 24), (1, 24), (1, 24), (1, 24), (1, 24), (0, 2), (1, 2), (1, 4), (1, 24), (1, 24), (1, 24), (1, 64), (0, 2), (1, 2), (1, 4), (1, 24), (1, 24), (1, 24), (1, 64), (0, 2), (1, 2), (1, 4), (1, 24), (1, 24), (1, 24), (1, 64), (0, 2), (1, 2), (1, 4), (1, 24), (1, 24), (1, 24), (1, 64), (0, 2), (1, 2), (1, 4), (1, 24), (1, 24), (1, 24), (1, 64), (0, 2), (1, 2), (1, 4), (1, 24), (1, 24), (1, 24), (1, 64), (3, 4), (0, 3), (1, 4), (1, 24), (1, 24), (1, 4), (0, 3), (1, 4), (1, 24), (1, 24), (1, 4), (0, 1), (1, 24), (0, 1), (1, 24), (0, 4), (1, 40), (1, 40), (0, 4), (1, 40), (1, 40), (0, 5), (1, 201), (1, 201), (1, 201), (1, 201), (2, 3216), (0, 6), (0, 7), (1, 120), (1, 10), (1, 10), (1, 10), (1, 10), (1, 8), (0, 8)]
def rfCl : List (List Nat) := [[1, 2, 3, 4, 5], [], [], [], [], [], [0, 7, 8, 9, 10, 11, 12, 0, 0, 0, 0, 0, 0, 0, 0], [], [], [], [], [], [], [0, 14, 15, 16, 17, 18, 19, 0, 0, 0, 0, 0, 0, 0, 0], [], [], [], [], [], [], [0, 21, 22, 23, 24, 25, 26, 0, 0, 0, 0, 0, 0, 0, 0], [], [], [], [], [], [], [0, 28, 29, 30, 31, 32, 33, 0, 0, 0, 0, 0, 0, 0, 0], [], [], [], [], [], [], [0, 35, 36, 37, 38, 39, 40, 0, 0, 0, 0, 0, 0, 0, 0], [], [], [], [], [], [], [0, 42, 43, 44, 45, 46, 47, 0, 0, 0, 0, 0, 0, 0, 0], [], [], [], [], [], [], [20, 27, 34, 41], [0, 50, 51, 0, 52, 53, 0], [], [], [], [], [0, 55, 56, 0, 57, 58, 0], [], [], [], [], [0, 0, 0, 0, 60, 0, 0], [], [0, 0, 0, 0, 62, 0, 0], [], [64, 65, 0, 0], [], [], [67, 68, 0, 0], [], [], [70, 71, 72, 73, 74], [], [], [], [], [], [0, 54, 61, 69, 0, 0, 0, 0], [77, 0, 0, 78, 79, 80, 81, 0], [], [], [], [], [], [], [0, 6, 13, 0, 20, 48, 75, 49, 59, 63, 66, 76, 82, 0, 0, 0]]
def lyC : LY := (84, fun p => shCl.getD p (9, 0), fun p j => (rfCl.getD p []).getD j 0)
theorem sC_0 : sh lyC 0 0 0 := ⟨by decide, rfl⟩
theorem sC_1 : sh lyC 1 1 24 := ⟨by decide, rfl⟩
theorem sC_2 : sh lyC 2 1 24 := ⟨by decide, rfl⟩
theorem sC_3 : sh lyC 3 1 24 := ⟨by decide, rfl⟩
theorem sC_4 : sh lyC 4 1 24 := ⟨by decide, rfl⟩
theorem sC_5 : sh lyC 5 1 24 := ⟨by decide, rfl⟩
theorem sC_6 : sh lyC 6 0 2 := ⟨by decide, rfl⟩
theorem sC_7 : sh lyC 7 1 2 := ⟨by decide, rfl⟩
theorem sC_8 : sh lyC 8 1 4 := ⟨by decide, rfl⟩
theorem sC_9 : sh lyC 9 1 24 := ⟨by decide, rfl⟩
theorem sC_10 : sh lyC 10 1 24 := ⟨by decide, rfl⟩
theorem sC_11 : sh lyC 11 1 24 := ⟨by decide, rfl⟩
theorem sC_12 : sh lyC 12 1 64 := ⟨by decide, rfl⟩
theorem sC_13 : sh lyC 13 0 2 := ⟨by decide, rfl⟩
theorem sC_14 : sh lyC 14 1 2 := ⟨by decide, rfl⟩
theorem sC_15 : sh lyC 15 1 4 := ⟨by decide, rfl⟩
theorem sC_16 : sh lyC 16 1 24 := ⟨by decide, rfl⟩
theorem sC_17 : sh lyC 17 1 24 := ⟨by decide, rfl⟩
theorem sC_18 : sh lyC 18 1 24 := ⟨by decide, rfl⟩
theorem sC_19 : sh lyC 19 1 64 := ⟨by decide, rfl⟩
theorem sC_20 : sh lyC 20 0 2 := ⟨by decide, rfl⟩
theorem sC_21 : sh lyC 21 1 2 := ⟨by decide, rfl⟩
theorem sC_22 : sh lyC 22 1 4 := ⟨by decide, rfl⟩
theorem sC_23 : sh lyC 23 1 24 := ⟨by decide, rfl⟩
theorem sC_24 : sh lyC 24 1 24 := ⟨by decide, rfl⟩
theorem sC_25 : sh lyC 25 1 24 := ⟨by decide, rfl⟩
theorem sC_26 : sh lyC 26 1 64 := ⟨by decide, rfl⟩
theorem sC_27 : sh lyC 27 0 2 := ⟨by decide, rfl⟩
theorem sC_28 : sh lyC 28 1 2 := ⟨by decide, rfl⟩
theorem sC_29 : sh lyC 29 1 4 := ⟨by decide, rfl⟩
theorem sC_30 : sh lyC 30 1 24 := ⟨by decide, rfl⟩
theorem sC_31 : sh lyC 31 1 24 := ⟨by decide, rfl⟩
theorem sC_32 : sh lyC 32 1 24 := ⟨by decide, rfl⟩
theorem sC_33 : sh lyC 33 1 64 := ⟨by decide, rfl⟩
theorem sC_34 : sh lyC 34 0 2 := ⟨by decide, rfl⟩
theorem sC_35 : sh lyC 35 1 2 := ⟨by decide, rfl⟩
theorem sC_36 : sh lyC 36 1 4 := ⟨by decide, rfl⟩
theorem sC_37 : sh lyC 37 1 24 := ⟨by decide, rfl⟩
theorem sC_38 : sh lyC 38 1 24 := ⟨by decide, rfl⟩
theorem sC_39 : sh lyC 39 1 24 := ⟨by decide, rfl⟩
theorem sC_40 : sh lyC 40 1 64 := ⟨by decide, rfl⟩
theorem sC_41 : sh lyC 41 0 2 := ⟨by decide, rfl⟩
theorem sC_42 : sh lyC 42 1 2 := ⟨by decide, rfl⟩
theorem sC_43 : sh lyC 43 1 4 := ⟨by decide, rfl⟩
theorem sC_44 : sh lyC 44 1 24 := ⟨by decide, rfl⟩
theorem sC_45 : sh lyC 45 1 24 := ⟨by decide, rfl⟩
theorem sC_46 : sh lyC 46 1 24 := ⟨by decide, rfl⟩
theorem sC_47 : sh lyC 47 1 64 := ⟨by decide, rfl⟩
theorem sC_48 : sh lyC 48 3 4 := ⟨by decide, rfl⟩
theorem sC_49 : sh lyC 49 0 3 := ⟨by decide, rfl⟩
theorem sC_50 : sh lyC 50 1 4 := ⟨by decide, rfl⟩
theorem sC_51 : sh lyC 51 1 24 := ⟨by decide, rfl⟩
theorem sC_52 : sh lyC 52 1 24 := ⟨by decide, rfl⟩
theorem sC_53 : sh lyC 53 1 4 := ⟨by decide, rfl⟩
theorem sC_54 : sh lyC 54 0 3 := ⟨by decide, rfl⟩
theorem sC_55 : sh lyC 55 1 4 := ⟨by decide, rfl⟩
theorem sC_56 : sh lyC 56 1 24 := ⟨by decide, rfl⟩
theorem sC_57 : sh lyC 57 1 24 := ⟨by decide, rfl⟩
theorem sC_58 : sh lyC 58 1 4 := ⟨by decide, rfl⟩
theorem sC_59 : sh lyC 59 0 1 := ⟨by decide, rfl⟩
theorem sC_60 : sh lyC 60 1 24 := ⟨by decide, rfl⟩
theorem sC_61 : sh lyC 61 0 1 := ⟨by decide, rfl⟩
theorem sC_62 : sh lyC 62 1 24 := ⟨by decide, rfl⟩
theorem sC_63 : sh lyC 63 0 4 := ⟨by decide, rfl⟩
theorem sC_64 : sh lyC 64 1 40 := ⟨by decide, rfl⟩
theorem sC_65 : sh lyC 65 1 40 := ⟨by decide, rfl⟩
theorem sC_66 : sh lyC 66 0 4 := ⟨by decide, rfl⟩
theorem sC_67 : sh lyC 67 1 40 := ⟨by decide, rfl⟩
theorem sC_68 : sh lyC 68 1 40 := ⟨by decide, rfl⟩
theorem sC_69 : sh lyC 69 0 5 := ⟨by decide, rfl⟩
theorem sC_70 : sh lyC 70 1 201 := ⟨by decide, rfl⟩
theorem sC_71 : sh lyC 71 1 201 := ⟨by decide, rfl⟩
theorem sC_72 : sh lyC 72 1 201 := ⟨by decide, rfl⟩
theorem sC_73 : sh lyC 73 1 201 := ⟨by decide, rfl⟩
theorem sC_74 : sh lyC 74 2 3216 := ⟨by decide, rfl⟩
theorem sC_75 : sh lyC 75 0 6 := ⟨by decide, rfl⟩
theorem sC_76 : sh lyC 76 0 7 := ⟨by decide, rfl⟩
theorem sC_77 : sh lyC 77 1 120 := ⟨by decide, rfl⟩
theorem sC_78 : sh lyC 78 1 10 := ⟨by decide, rfl⟩
theorem sC_79 : sh lyC 79 1 10 := ⟨by decide, rfl⟩
theorem sC_80 : sh lyC 80 1 10 := ⟨by decide, rfl⟩
theorem sC_81 : sh lyC 81 1 10 := ⟨by decide, rfl⟩
theorem sC_82 : sh lyC 82 1 8 := ⟨by decide, rfl⟩
theorem sC_83 : sh lyC 83 0 8 := ⟨by decide, rfl⟩
theorem shG0 {k : Nat} (hk : k < 6) : sh lyC (gp k) 0 2 := (by decide +kernel : ∀ k, k < 6 → (gp k < lyC.1 ∧ lyC.2.1 (gp k) = (0, 2))) k hk
theorem shG1 {k : Nat} (hk : k < 6) : sh lyC (gp k + 1) 1 2 := (by decide +kernel : ∀ k, k < 6 → (gp k + 1 < lyC.1 ∧ lyC.2.1 (gp k + 1) = (1, 2))) k hk
theorem shG2 {k : Nat} (hk : k < 6) : sh lyC (gp k + 2) 1 4 := (by decide +kernel : ∀ k, k < 6 → (gp k + 2 < lyC.1 ∧ lyC.2.1 (gp k + 2) = (1, 4))) k hk
theorem shG3 {k : Nat} (hk : k < 6) : sh lyC (gp k + 3) 1 24 := (by decide +kernel : ∀ k, k < 6 → (gp k + 3 < lyC.1 ∧ lyC.2.1 (gp k + 3) = (1, 24))) k hk
theorem shG4 {k : Nat} (hk : k < 6) : sh lyC (gp k + 4) 1 24 := (by decide +kernel : ∀ k, k < 6 → (gp k + 4 < lyC.1 ∧ lyC.2.1 (gp k + 4) = (1, 24))) k hk
theorem shG5 {k : Nat} (hk : k < 6) : sh lyC (gp k + 5) 1 24 := (by decide +kernel : ∀ k, k < 6 → (gp k + 5 < lyC.1 ∧ lyC.2.1 (gp k + 5) = (1, 24))) k hk
theorem shG6 {k : Nat} (hk : k < 6) : sh lyC (gp k + 6) 1 64 := (by decide +kernel : ∀ k, k < 6 → (gp k + 6 < lyC.1 ∧ lyC.2.1 (gp k + 6) = (1, 64))) k hk
theorem rf_G_0 {k : Nat} (hk : k < 6) : lyC.2.2 (gp k) 0 = 0 := (by decide +kernel : ∀ k, k < 6 → lyC.2.2 (gp k) 0 = 0) k hk
theorem rf_G_1 {k : Nat} (hk : k < 6) : lyC.2.2 (gp k) 1 = (gp k + 1) := (by decide +kernel : ∀ k, k < 6 → lyC.2.2 (gp k) 1 = (gp k + 1)) k hk
theorem rf_G_2 {k : Nat} (hk : k < 6) : lyC.2.2 (gp k) 2 = (gp k + 2) := (by decide +kernel : ∀ k, k < 6 → lyC.2.2 (gp k) 2 = (gp k + 2)) k hk
theorem rf_G_3 {k : Nat} (hk : k < 6) : lyC.2.2 (gp k) 3 = (gp k + 3) := (by decide +kernel : ∀ k, k < 6 → lyC.2.2 (gp k) 3 = (gp k + 3)) k hk
theorem rf_G_4 {k : Nat} (hk : k < 6) : lyC.2.2 (gp k) 4 = (gp k + 4) := (by decide +kernel : ∀ k, k < 6 → lyC.2.2 (gp k) 4 = (gp k + 4)) k hk
theorem rf_G_5 {k : Nat} (hk : k < 6) : lyC.2.2 (gp k) 5 = (gp k + 5) := (by decide +kernel : ∀ k, k < 6 → lyC.2.2 (gp k) 5 = (gp k + 5)) k hk
theorem rf_G_6 {k : Nat} (hk : k < 6) : lyC.2.2 (gp k) 6 = (gp k + 6) := (by decide +kernel : ∀ k, k < 6 → lyC.2.2 (gp k) 6 = (gp k + 6)) k hk
theorem shY0 {k : Nat} (hk : k < 2) : sh lyC (yp k) 0 3 := (by decide +kernel : ∀ k, k < 2 → (yp k < lyC.1 ∧ lyC.2.1 (yp k) = (0, 3))) k hk
theorem shY1 {k : Nat} (hk : k < 2) : sh lyC (yp k + 1) 1 4 := (by decide +kernel : ∀ k, k < 2 → (yp k + 1 < lyC.1 ∧ lyC.2.1 (yp k + 1) = (1, 4))) k hk
theorem shY2 {k : Nat} (hk : k < 2) : sh lyC (yp k + 2) 1 24 := (by decide +kernel : ∀ k, k < 2 → (yp k + 2 < lyC.1 ∧ lyC.2.1 (yp k + 2) = (1, 24))) k hk
theorem shY3 {k : Nat} (hk : k < 2) : sh lyC (yp k + 3) 1 24 := (by decide +kernel : ∀ k, k < 2 → (yp k + 3 < lyC.1 ∧ lyC.2.1 (yp k + 3) = (1, 24))) k hk
theorem shY4 {k : Nat} (hk : k < 2) : sh lyC (yp k + 4) 1 4 := (by decide +kernel : ∀ k, k < 2 → (yp k + 4 < lyC.1 ∧ lyC.2.1 (yp k + 4) = (1, 4))) k hk
theorem rf_Y_0 {k : Nat} (hk : k < 2) : lyC.2.2 (yp k) 0 = 0 := (by decide +kernel : ∀ k, k < 2 → lyC.2.2 (yp k) 0 = 0) k hk
theorem rf_Y_1 {k : Nat} (hk : k < 2) : lyC.2.2 (yp k) 1 = (yp k + 1) := (by decide +kernel : ∀ k, k < 2 → lyC.2.2 (yp k) 1 = (yp k + 1)) k hk
theorem rf_Y_2 {k : Nat} (hk : k < 2) : lyC.2.2 (yp k) 2 = (yp k + 2) := (by decide +kernel : ∀ k, k < 2 → lyC.2.2 (yp k) 2 = (yp k + 2)) k hk
theorem rf_Y_4 {k : Nat} (hk : k < 2) : lyC.2.2 (yp k) 4 = (yp k + 3) := (by decide +kernel : ∀ k, k < 2 → lyC.2.2 (yp k) 4 = (yp k + 3)) k hk
theorem rf_Y_5 {k : Nat} (hk : k < 2) : lyC.2.2 (yp k) 5 = (yp k + 4) := (by decide +kernel : ∀ k, k < 2 → lyC.2.2 (yp k) 5 = (yp k + 4)) k hk
theorem shE0 {k : Nat} (hk : k < 2) : sh lyC (ep k) 0 1 := (by decide +kernel : ∀ k, k < 2 → (ep k < lyC.1 ∧ lyC.2.1 (ep k) = (0, 1))) k hk
theorem shE1 {k : Nat} (hk : k < 2) : sh lyC (ep k + 1) 1 24 := (by decide +kernel : ∀ k, k < 2 → (ep k + 1 < lyC.1 ∧ lyC.2.1 (ep k + 1) = (1, 24))) k hk
theorem rf_E_0 {k : Nat} (hk : k < 2) : lyC.2.2 (ep k) 0 = 0 := (by decide +kernel : ∀ k, k < 2 → lyC.2.2 (ep k) 0 = 0) k hk
theorem rf_E_4 {k : Nat} (hk : k < 2) : lyC.2.2 (ep k) 4 = (ep k + 1) := (by decide +kernel : ∀ k, k < 2 → lyC.2.2 (ep k) 4 = (ep k + 1)) k hk
theorem shO0 {k : Nat} (hk : k < 2) : sh lyC (op k) 0 4 := (by decide +kernel : ∀ k, k < 2 → (op k < lyC.1 ∧ lyC.2.1 (op k) = (0, 4))) k hk
theorem shO1 {k : Nat} (hk : k < 2) : sh lyC (op k + 1) 1 40 := (by decide +kernel : ∀ k, k < 2 → (op k + 1 < lyC.1 ∧ lyC.2.1 (op k + 1) = (1, 40))) k hk
theorem shO2 {k : Nat} (hk : k < 2) : sh lyC (op k + 2) 1 40 := (by decide +kernel : ∀ k, k < 2 → (op k + 2 < lyC.1 ∧ lyC.2.1 (op k + 2) = (1, 40))) k hk
theorem rf_O_0 {k : Nat} (hk : k < 2) : lyC.2.2 (op k) 0 = (op k + 1) := (by decide +kernel : ∀ k, k < 2 → lyC.2.2 (op k) 0 = (op k + 1)) k hk
theorem rf_O_1 {k : Nat} (hk : k < 2) : lyC.2.2 (op k) 1 = (op k + 2) := (by decide +kernel : ∀ k, k < 2 → lyC.2.2 (op k) 1 = (op k + 2)) k hk
def shR1 : List (Nat × Nat) := [(0, 9), (1, 24), (1, 24), (1, 24), (1, 24), (1, 24), (1, 123), (4, 6), (1, 123), (1, 123), (1, 123), (1, 123), (1, 123), (1, 123), (1, 123), (4, 201)]
def shR2 : List (Nat × Nat) := [(1, 4), (1, 24), (1, 24), (1, 120), (1, 8), (1, 40), (1, 40)]
def rfR0 : List Nat := [1, 2, 3, 4, 5, 0, 6, 7, 14, 0, 15, 217, 218, 0, 219, 0, 0, 0, 0, 220, 0, 221, 0, 0, 0, 0, 0, 0, 222, 0, 223, 0, 0, 0, 0]
def lyR : LY := (224, fun p => if p < 16 then shR1.getD p (9, 0) else if p < 217 then (1, 116) else shR2.getD (p - 217) (9, 0), fun p j => if p = 7 then 8 + j else if p = 15 then 16 + j else rfR0.getD j 0)
theorem sR_0 : sh lyR 0 0 9 := ⟨by decide, rfl⟩
theorem sR_1 : sh lyR 1 1 24 := ⟨by decide, rfl⟩
theorem sR_2 : sh lyR 2 1 24 := ⟨by decide, rfl⟩
theorem sR_3 : sh lyR 3 1 24 := ⟨by decide, rfl⟩
theorem sR_4 : sh lyR 4 1 24 := ⟨by decide, rfl⟩
theorem sR_5 : sh lyR 5 1 24 := ⟨by decide, rfl⟩
theorem sR_6 : sh lyR 6 1 123 := ⟨by decide, rfl⟩
theorem sR_7 : sh lyR 7 4 6 := ⟨by decide, rfl⟩
theorem sR_8 : sh lyR 8 1 123 := ⟨by decide, rfl⟩
theorem sR_9 : sh lyR 9 1 123 := ⟨by decide, rfl⟩
theorem sR_10 : sh lyR 10 1 123 := ⟨by decide, rfl⟩
theorem sR_11 : sh lyR 11 1 123 := ⟨by decide, rfl⟩
theorem sR_12 : sh lyR 12 1 123 := ⟨by decide, rfl⟩
theorem sR_13 : sh lyR 13 1 123 := ⟨by decide, rfl⟩
theorem sR_14 : sh lyR 14 1 123 := ⟨by decide, rfl⟩
theorem sR_15 : sh lyR 15 4 201 := ⟨by decide, rfl⟩
theorem sR_217 : sh lyR 217 1 4 := ⟨by decide, rfl⟩
theorem sR_218 : sh lyR 218 1 24 := ⟨by decide, rfl⟩
theorem sR_219 : sh lyR 219 1 24 := ⟨by decide, rfl⟩
theorem sR_220 : sh lyR 220 1 120 := ⟨by decide, rfl⟩
theorem sR_221 : sh lyR 221 1 8 := ⟨by decide, rfl⟩
theorem sR_222 : sh lyR 222 1 40 := ⟨by decide, rfl⟩
theorem sR_223 : sh lyR 223 1 40 := ⟨by decide, rfl⟩
theorem sS {j : Nat} (hj : j < 201) : sh lyR (16 + j) 1 116 := by
  refine ⟨by show 16 + j < 224; omega, ?_⟩
  show (if 16 + j < 16 then _ else if 16 + j < 217 then _ else _) = _
  rw [if_neg (by omega), if_pos (by omega)]
/-- forms of contracts -/
def Pi (P : Int32 → Mem → Prop) : Option Value → Mem → Prop := fun v M => ∃ r : Int32, v = some (.int r) ∧ P r M
def Pa (P : Nat → Mem → Prop) : Option Value → Mem → Prop := fun v M => ∃ r : Nat, v = some (.ref r) ∧ P r M
def Pv (P : Mem → Prop) : Option Value → Mem → Prop := fun v M => v = none ∧ P M
section RC
variable {κ : KX} {y : LY} {own : String} {cc : ByteArray} {nL d pc : Nat} {ret : Option FieldType} {L : List (Option Value)} {st : List Value} {M : Mem}
theorem u_top {x : Int32} (kk : ∀ z : Int32, z = x → G κ y pc L (.int z :: st) M) : G κ y pc L (.int x :: st) M := kk x rfl
theorem u_mem {M2 : Mem} (h : M = M2) (kk : G κ y pc L st M2) : G κ y pc L st M := h ▸ kk
theorem u_callSi (C : Cx κ y own cc nL ret d) {idx n : Nat} {x : MethodName} {cc2 : ByteArray} {nL2 d2 : Nat} {ret2 : Option FieldType} {As stk : List Value} {P : Int32 → Mem → Prop} (hd : decode cc pc = .ok (.invokestatic idx, 3)) (mx : MX x cc2 nL2 ret2 n true) (mw : MW own idx x) (h : Ct y x cc2 nL2 ret2 d2 As M (Pi P)) (hn : (decide (As.length = n) && decide (d2 < d) && decide (nL2 ≤ 40)) = true) (hst : As.reverse ++ st = stk) (hroom : (st.map fun v => v.category).sum ≤ 8) (kk : ∀ (r : Int32) (M' : Mem), P r M' → G κ y (pc + 3) L (.int r :: st) M') : G κ y pc L stk M :=
  u_callS C hd mx mw h hn hst hroom (fun v M' q => by
    obtain ⟨r, rfl, q⟩ := q
    exact kk r M' q)
theorem u_callSa (C : Cx κ y own cc nL ret d) {idx n : Nat} {x : MethodName} {cc2 : ByteArray} {nL2 d2 : Nat} {ret2 : Option FieldType} {As stk : List Value} {P : Nat → Mem → Prop} (hd : decode cc pc = .ok (.invokestatic idx, 3)) (mx : MX x cc2 nL2 ret2 n true) (mw : MW own idx x) (h : Ct y x cc2 nL2 ret2 d2 As M (Pa P)) (hn : (decide (As.length = n) && decide (d2 < d) && decide (nL2 ≤ 40)) = true) (hst : As.reverse ++ st = stk) (hroom : (st.map fun v => v.category).sum ≤ 8) (kk : ∀ (r : Nat) (M' : Mem), P r M' → G κ y (pc + 3) L (.ref r :: st) M') : G κ y pc L stk M :=
  u_callS C hd mx mw h hn hst hroom (fun v M' q => by
    obtain ⟨r, rfl, q⟩ := q
    exact kk r M' q)
theorem u_callSv (C : Cx κ y own cc nL ret d) {idx n : Nat} {x : MethodName} {cc2 : ByteArray} {nL2 d2 : Nat} {ret2 : Option FieldType} {As stk : List Value} {P : Mem → Prop} (hd : decode cc pc = .ok (.invokestatic idx, 3)) (mx : MX x cc2 nL2 ret2 n true) (mw : MW own idx x) (h : Ct y x cc2 nL2 ret2 d2 As M (Pv P)) (hn : (decide (As.length = n) && decide (d2 < d) && decide (nL2 ≤ 40)) = true) (hst : As.reverse ++ st = stk) (hroom : (st.map fun v => v.category).sum ≤ 8) (kk : ∀ (M' : Mem), P M' → G κ y (pc + 3) L st M') : G κ y pc L stk M :=
  u_callS C hd mx mw h hn hst hroom (fun v M' q => by
    obtain ⟨rfl, q⟩ := q
    exact kk M' q)
theorem u_callVi (C : Cx κ y own cc nL ret d) {idx p ci n : Nat} {x : MethodName} {cc2 : ByteArray} {nL2 d2 : Nat} {ret2 : Option FieldType} {As stk : List Value} {P : Int32 → Mem → Prop} (hd : decode cc pc = .ok (.invokevirtual idx, 3)) (mx : MX x cc2 nL2 ret2 n false) (mw : MW own idx x) (hs : sh y p 0 ci) (hci : (cls0[ci]?).map (fun q => q.1) = some x.cls) (h : Ct y x cc2 nL2 ret2 d2 (.ref p :: As) M (Pi P)) (hn : (decide (As.length = n) && decide (d2 < d) && decide (nL2 ≤ 40)) = true) (hst : As.reverse ++ .ref p :: st = stk) (hroom : (st.map fun v => v.category).sum ≤ 8) (kk : ∀ (r : Int32) (M' : Mem), P r M' → G κ y (pc + 3) L (.int r :: st) M') : G κ y pc L stk M :=
  u_callV C hd mx mw hs hci h hn hst hroom (fun v M' q => by
    obtain ⟨r, rfl, q⟩ := q
    exact kk r M' q)
theorem u_callVa (C : Cx κ y own cc nL ret d) {idx p ci n : Nat} {x : MethodName} {cc2 : ByteArray} {nL2 d2 : Nat} {ret2 : Option FieldType} {As stk : List Value} {P : Nat → Mem → Prop} (hd : decode cc pc = .ok (.invokevirtual idx, 3)) (mx : MX x cc2 nL2 ret2 n false) (mw : MW own idx x) (hs : sh y p 0 ci) (hci : (cls0[ci]?).map (fun q => q.1) = some x.cls) (h : Ct y x cc2 nL2 ret2 d2 (.ref p :: As) M (Pa P)) (hn : (decide (As.length = n) && decide (d2 < d) && decide (nL2 ≤ 40)) = true) (hst : As.reverse ++ .ref p :: st = stk) (hroom : (st.map fun v => v.category).sum ≤ 8) (kk : ∀ (r : Nat) (M' : Mem), P r M' → G κ y (pc + 3) L (.ref r :: st) M') : G κ y pc L stk M :=
  u_callV C hd mx mw hs hci h hn hst hroom (fun v M' q => by
    obtain ⟨r, rfl, q⟩ := q
    exact kk r M' q)
theorem u_callVv (C : Cx κ y own cc nL ret d) {idx p ci n : Nat} {x : MethodName} {cc2 : ByteArray} {nL2 d2 : Nat} {ret2 : Option FieldType} {As stk : List Value} {P : Mem → Prop} (hd : decode cc pc = .ok (.invokevirtual idx, 3)) (mx : MX x cc2 nL2 ret2 n false) (mw : MW own idx x) (hs : sh y p 0 ci) (hci : (cls0[ci]?).map (fun q => q.1) = some x.cls) (h : Ct y x cc2 nL2 ret2 d2 (.ref p :: As) M (Pv P)) (hn : (decide (As.length = n) && decide (d2 < d) && decide (nL2 ≤ 40)) = true) (hst : As.reverse ++ .ref p :: st = stk) (hroom : (st.map fun v => v.category).sum ≤ 8) (kk : ∀ (M' : Mem), P M' → G κ y (pc + 3) L st M') : G κ y pc L stk M :=
  u_callV C hd mx mw hs hci h hn hst hroom (fun v M' q => by
    obtain ⟨rfl, q⟩ := q
    exact kk M' q)
end RC
theorem sw_0_2 (x : Int32) : x = 0 ∨ x = 1 ∨ x = 2 ∨ (x.toInt < 0 ∨ 2 < x.toInt) := by
  by_cases h1 : x.toInt < 0
  · exact (Or.inr (Or.inr (Or.inr (Or.inl h1))))
  · by_cases h2 : 2 < x.toInt
    · exact (Or.inr (Or.inr (Or.inr (Or.inr h2))))
    · have e : ∀ z : Int32, x.toInt = z.toInt → x = z := fun z q => Int32.toInt_inj.mp q
      rcases (show x.toInt = 0 ∨ x.toInt = 1 ∨ x.toInt = 2 by omega) with q | q | q
      · exact (Or.inl (e 0 q))
      · exact (Or.inr (Or.inl (e 1 q)))
      · exact (Or.inr (Or.inr (Or.inl (e 2 q))))
theorem sw_0_3 (x : Int32) : x = 0 ∨ x = 1 ∨ x = 2 ∨ x = 3 ∨ (x.toInt < 0 ∨ 3 < x.toInt) := by
  by_cases h1 : x.toInt < 0
  · exact (Or.inr (Or.inr (Or.inr (Or.inr (Or.inl h1)))))
  · by_cases h2 : 3 < x.toInt
    · exact (Or.inr (Or.inr (Or.inr (Or.inr (Or.inr h2)))))
    · have e : ∀ z : Int32, x.toInt = z.toInt → x = z := fun z q => Int32.toInt_inj.mp q
      rcases (show x.toInt = 0 ∨ x.toInt = 1 ∨ x.toInt = 2 ∨ x.toInt = 3 by omega) with q | q | q | q
      · exact (Or.inl (e 0 q))
      · exact (Or.inr (Or.inl (e 1 q)))
      · exact (Or.inr (Or.inr (Or.inl (e 2 q))))
      · exact (Or.inr (Or.inr (Or.inr (Or.inl (e 3 q)))))
theorem sw_0_4 (x : Int32) : x = 0 ∨ x = 1 ∨ x = 2 ∨ x = 3 ∨ x = 4 ∨ (x.toInt < 0 ∨ 4 < x.toInt) := by
  by_cases h1 : x.toInt < 0
  · exact (Or.inr (Or.inr (Or.inr (Or.inr (Or.inr (Or.inl h1))))))
  · by_cases h2 : 4 < x.toInt
    · exact (Or.inr (Or.inr (Or.inr (Or.inr (Or.inr (Or.inr h2))))))
    · have e : ∀ z : Int32, x.toInt = z.toInt → x = z := fun z q => Int32.toInt_inj.mp q
      rcases (show x.toInt = 0 ∨ x.toInt = 1 ∨ x.toInt = 2 ∨ x.toInt = 3 ∨ x.toInt = 4 by omega) with q | q | q | q | q
      · exact (Or.inl (e 0 q))
      · exact (Or.inr (Or.inl (e 1 q)))
      · exact (Or.inr (Or.inr (Or.inl (e 2 q))))
      · exact (Or.inr (Or.inr (Or.inr (Or.inl (e 3 q)))))
      · exact (Or.inr (Or.inr (Or.inr (Or.inr (Or.inl (e 4 q))))))
theorem sw_0_6 (x : Int32) : x = 0 ∨ x = 1 ∨ x = 2 ∨ x = 3 ∨ x = 4 ∨ x = 5 ∨ x = 6 ∨ (x.toInt < 0 ∨ 6 < x.toInt) := by
  by_cases h1 : x.toInt < 0
  · exact (Or.inr (Or.inr (Or.inr (Or.inr (Or.inr (Or.inr (Or.inr (Or.inl h1))))))))
  · by_cases h2 : 6 < x.toInt
    · exact (Or.inr (Or.inr (Or.inr (Or.inr (Or.inr (Or.inr (Or.inr (Or.inr h2))))))))
    · have e : ∀ z : Int32, x.toInt = z.toInt → x = z := fun z q => Int32.toInt_inj.mp q
      rcases (show x.toInt = 0 ∨ x.toInt = 1 ∨ x.toInt = 2 ∨ x.toInt = 3 ∨ x.toInt = 4 ∨ x.toInt = 5 ∨ x.toInt = 6 by omega) with q | q | q | q | q | q | q
      · exact (Or.inl (e 0 q))
      · exact (Or.inr (Or.inl (e 1 q)))
      · exact (Or.inr (Or.inr (Or.inl (e 2 q))))
      · exact (Or.inr (Or.inr (Or.inr (Or.inl (e 3 q)))))
      · exact (Or.inr (Or.inr (Or.inr (Or.inr (Or.inl (e 4 q))))))
      · exact (Or.inr (Or.inr (Or.inr (Or.inr (Or.inr (Or.inl (e 5 q)))))))
      · exact (Or.inr (Or.inr (Or.inr (Or.inr (Or.inr (Or.inr (Or.inl (e 6 q))))))))
theorem sw_0_8 (x : Int32) : x = 0 ∨ x = 1 ∨ x = 2 ∨ x = 3 ∨ x = 4 ∨ x = 5 ∨ x = 6 ∨ x = 7 ∨ x = 8 ∨ (x.toInt < 0 ∨ 8 < x.toInt) := by
  by_cases h1 : x.toInt < 0
  · exact (Or.inr (Or.inr (Or.inr (Or.inr (Or.inr (Or.inr (Or.inr (Or.inr (Or.inr (Or.inl h1))))))))))
  · by_cases h2 : 8 < x.toInt
    · exact (Or.inr (Or.inr (Or.inr (Or.inr (Or.inr (Or.inr (Or.inr (Or.inr (Or.inr (Or.inr h2))))))))))
    · have e : ∀ z : Int32, x.toInt = z.toInt → x = z := fun z q => Int32.toInt_inj.mp q
      rcases (show x.toInt = 0 ∨ x.toInt = 1 ∨ x.toInt = 2 ∨ x.toInt = 3 ∨ x.toInt = 4 ∨ x.toInt = 5 ∨ x.toInt = 6 ∨ x.toInt = 7 ∨ x.toInt = 8 by omega) with q | q | q | q | q | q | q | q | q
      · exact (Or.inl (e 0 q))
      · exact (Or.inr (Or.inl (e 1 q)))
      · exact (Or.inr (Or.inr (Or.inl (e 2 q))))
      · exact (Or.inr (Or.inr (Or.inr (Or.inl (e 3 q)))))
      · exact (Or.inr (Or.inr (Or.inr (Or.inr (Or.inl (e 4 q))))))
      · exact (Or.inr (Or.inr (Or.inr (Or.inr (Or.inr (Or.inl (e 5 q)))))))
      · exact (Or.inr (Or.inr (Or.inr (Or.inr (Or.inr (Or.inr (Or.inl (e 6 q))))))))
      · exact (Or.inr (Or.inr (Or.inr (Or.inr (Or.inr (Or.inr (Or.inr (Or.inl (e 7 q)))))))))
      · exact (Or.inr (Or.inr (Or.inr (Or.inr (Or.inr (Or.inr (Or.inr (Or.inr (Or.inl (e 8 q))))))))))
theorem sw_0_13 (x : Int32) : x = 0 ∨ x = 1 ∨ x = 2 ∨ x = 3 ∨ x = 4 ∨ x = 5 ∨ x = 6 ∨ x = 7 ∨ x = 8 ∨ x = 9 ∨ x = 10 ∨ x = 11 ∨ x = 12 ∨ x = 13 ∨ (x.toInt < 0 ∨ 13 < x.toInt) := by
  by_cases h1 : x.toInt < 0
  · exact (Or.inr (Or.inr (Or.inr (Or.inr (Or.inr (Or.inr (Or.inr (Or.inr (Or.inr (Or.inr (Or.inr (Or.inr (Or.inr (Or.inr (Or.inl h1)))))))))))))))
  · by_cases h2 : 13 < x.toInt
    · exact (Or.inr (Or.inr (Or.inr (Or.inr (Or.inr (Or.inr (Or.inr (Or.inr (Or.inr (Or.inr (Or.inr (Or.inr (Or.inr (Or.inr (Or.inr h2)))))))))))))))
    · have e : ∀ z : Int32, x.toInt = z.toInt → x = z := fun z q => Int32.toInt_inj.mp q
      rcases (show x.toInt = 0 ∨ x.toInt = 1 ∨ x.toInt = 2 ∨ x.toInt = 3 ∨ x.toInt = 4 ∨ x.toInt = 5 ∨ x.toInt = 6 ∨ x.toInt = 7 ∨ x.toInt = 8 ∨ x.toInt = 9 ∨ x.toInt = 10 ∨ x.toInt = 11 ∨ x.toInt = 12 ∨ x.toInt = 13 by omega) with q | q | q | q | q | q | q | q | q | q | q | q | q | q
      · exact (Or.inl (e 0 q))
      · exact (Or.inr (Or.inl (e 1 q)))
      · exact (Or.inr (Or.inr (Or.inl (e 2 q))))
      · exact (Or.inr (Or.inr (Or.inr (Or.inl (e 3 q)))))
      · exact (Or.inr (Or.inr (Or.inr (Or.inr (Or.inl (e 4 q))))))
      · exact (Or.inr (Or.inr (Or.inr (Or.inr (Or.inr (Or.inl (e 5 q)))))))
      · exact (Or.inr (Or.inr (Or.inr (Or.inr (Or.inr (Or.inr (Or.inl (e 6 q))))))))
      · exact (Or.inr (Or.inr (Or.inr (Or.inr (Or.inr (Or.inr (Or.inr (Or.inl (e 7 q)))))))))
      · exact (Or.inr (Or.inr (Or.inr (Or.inr (Or.inr (Or.inr (Or.inr (Or.inr (Or.inl (e 8 q))))))))))
      · exact (Or.inr (Or.inr (Or.inr (Or.inr (Or.inr (Or.inr (Or.inr (Or.inr (Or.inr (Or.inl (e 9 q)))))))))))
      · exact (Or.inr (Or.inr (Or.inr (Or.inr (Or.inr (Or.inr (Or.inr (Or.inr (Or.inr (Or.inr (Or.inl (e 10 q))))))))))))
      · exact (Or.inr (Or.inr (Or.inr (Or.inr (Or.inr (Or.inr (Or.inr (Or.inr (Or.inr (Or.inr (Or.inr (Or.inl (e 11 q)))))))))))))
      · exact (Or.inr (Or.inr (Or.inr (Or.inr (Or.inr (Or.inr (Or.inr (Or.inr (Or.inr (Or.inr (Or.inr (Or.inr (Or.inl (e 12 q))))))))))))))
      · exact (Or.inr (Or.inr (Or.inr (Or.inr (Or.inr (Or.inr (Or.inr (Or.inr (Or.inr (Or.inr (Or.inr (Or.inr (Or.inr (Or.inl (e 13 q)))))))))))))))
theorem sw_0_14 (x : Int32) : x = 0 ∨ x = 1 ∨ x = 2 ∨ x = 3 ∨ x = 4 ∨ x = 5 ∨ x = 6 ∨ x = 7 ∨ x = 8 ∨ x = 9 ∨ x = 10 ∨ x = 11 ∨ x = 12 ∨ x = 13 ∨ x = 14 ∨ (x.toInt < 0 ∨ 14 < x.toInt) := by
  by_cases h1 : x.toInt < 0
  · exact (Or.inr (Or.inr (Or.inr (Or.inr (Or.inr (Or.inr (Or.inr (Or.inr (Or.inr (Or.inr (Or.inr (Or.inr (Or.inr (Or.inr (Or.inr (Or.inl h1))))))))))))))))
  · by_cases h2 : 14 < x.toInt
    · exact (Or.inr (Or.inr (Or.inr (Or.inr (Or.inr (Or.inr (Or.inr (Or.inr (Or.inr (Or.inr (Or.inr (Or.inr (Or.inr (Or.inr (Or.inr (Or.inr h2))))))))))))))))
    · have e : ∀ z : Int32, x.toInt = z.toInt → x = z := fun z q => Int32.toInt_inj.mp q
      rcases (show x.toInt = 0 ∨ x.toInt = 1 ∨ x.toInt = 2 ∨ x.toInt = 3 ∨ x.toInt = 4 ∨ x.toInt = 5 ∨ x.toInt = 6 ∨ x.toInt = 7 ∨ x.toInt = 8 ∨ x.toInt = 9 ∨ x.toInt = 10 ∨ x.toInt = 11 ∨ x.toInt = 12 ∨ x.toInt = 13 ∨ x.toInt = 14 by omega) with q | q | q | q | q | q | q | q | q | q | q | q | q | q | q
      · exact (Or.inl (e 0 q))
      · exact (Or.inr (Or.inl (e 1 q)))
      · exact (Or.inr (Or.inr (Or.inl (e 2 q))))
      · exact (Or.inr (Or.inr (Or.inr (Or.inl (e 3 q)))))
      · exact (Or.inr (Or.inr (Or.inr (Or.inr (Or.inl (e 4 q))))))
      · exact (Or.inr (Or.inr (Or.inr (Or.inr (Or.inr (Or.inl (e 5 q)))))))
      · exact (Or.inr (Or.inr (Or.inr (Or.inr (Or.inr (Or.inr (Or.inl (e 6 q))))))))
      · exact (Or.inr (Or.inr (Or.inr (Or.inr (Or.inr (Or.inr (Or.inr (Or.inl (e 7 q)))))))))
      · exact (Or.inr (Or.inr (Or.inr (Or.inr (Or.inr (Or.inr (Or.inr (Or.inr (Or.inl (e 8 q))))))))))
      · exact (Or.inr (Or.inr (Or.inr (Or.inr (Or.inr (Or.inr (Or.inr (Or.inr (Or.inr (Or.inl (e 9 q)))))))))))
      · exact (Or.inr (Or.inr (Or.inr (Or.inr (Or.inr (Or.inr (Or.inr (Or.inr (Or.inr (Or.inr (Or.inl (e 10 q))))))))))))
      · exact (Or.inr (Or.inr (Or.inr (Or.inr (Or.inr (Or.inr (Or.inr (Or.inr (Or.inr (Or.inr (Or.inr (Or.inl (e 11 q)))))))))))))
      · exact (Or.inr (Or.inr (Or.inr (Or.inr (Or.inr (Or.inr (Or.inr (Or.inr (Or.inr (Or.inr (Or.inr (Or.inr (Or.inl (e 12 q))))))))))))))
      · exact (Or.inr (Or.inr (Or.inr (Or.inr (Or.inr (Or.inr (Or.inr (Or.inr (Or.inr (Or.inr (Or.inr (Or.inr (Or.inr (Or.inl (e 13 q)))))))))))))))
      · exact (Or.inr (Or.inr (Or.inr (Or.inr (Or.inr (Or.inr (Or.inr (Or.inr (Or.inr (Or.inr (Or.inr (Or.inr (Or.inr (Or.inr (Or.inl (e 14 q))))))))))))))))
theorem sw_0_32 (x : Int32) : x = 0 ∨ x = 1 ∨ x = 2 ∨ x = 3 ∨ x = 4 ∨ x = 5 ∨ x = 6 ∨ x = 7 ∨ x = 8 ∨ x = 9 ∨ x = 10 ∨ x = 11 ∨ x = 12 ∨ x = 13 ∨ x = 14 ∨ x = 15 ∨ x = 16 ∨ x = 17 ∨ x = 18 ∨ x = 19 ∨ x = 20 ∨ x = 21 ∨ x = 22 ∨ x = 23 ∨ x = 24 ∨ x = 25 ∨ x = 26 ∨ x = 27 ∨ x = 28 ∨ x = 29 ∨ x = 30 ∨ x = 31 ∨ x = 32 ∨ (x.toInt < 0 ∨ 32 < x.toInt) := by
  by_cases h1 : x.toInt < 0
  · exact (Or.inr (Or.inr (Or.inr (Or.inr (Or.inr (Or.inr (Or.inr (Or.inr (Or.inr (Or.inr (Or.inr (Or.inr (Or.inr (Or.inr (Or.inr (Or.inr (Or.inr (Or.inr (Or.inr (Or.inr (Or.inr (Or.inr (Or.inr (Or.inr (Or.inr (Or.inr (Or.inr (Or.inr (Or.inr (Or.inr (Or.inr (Or.inr (Or.inr (Or.inl h1))))))))))))))))))))))))))))))))))
  · by_cases h2 : 32 < x.toInt
    · exact (Or.inr (Or.inr (Or.inr (Or.inr (Or.inr (Or.inr (Or.inr (Or.inr (Or.inr (Or.inr (Or.inr (Or.inr (Or.inr (Or.inr (Or.inr (Or.inr (Or.inr (Or.inr (Or.inr (Or.inr (Or.inr (Or.inr (Or.inr (Or.inr (Or.inr (Or.inr (Or.inr (Or.inr (Or.inr (Or.inr (Or.inr (Or.inr (Or.inr (Or.inr h2))))))))))))))))))))))))))))))))))
    · have e : ∀ z : Int32, x.toInt = z.toInt → x = z := fun z q => Int32.toInt_inj.mp q
      rcases (show x.toInt = 0 ∨ x.toInt = 1 ∨ x.toInt = 2 ∨ x.toInt = 3 ∨ x.toInt = 4 ∨ x.toInt = 5 ∨ x.toInt = 6 ∨ x.toInt = 7 ∨ x.toInt = 8 ∨ x.toInt = 9 ∨ x.toInt = 10 ∨ x.toInt = 11 ∨ x.toInt = 12 ∨ x.toInt = 13 ∨ x.toInt = 14 ∨ x.toInt = 15 ∨ x.toInt = 16 ∨ x.toInt = 17 ∨ x.toInt = 18 ∨ x.toInt = 19 ∨ x.toInt = 20 ∨ x.toInt = 21 ∨ x.toInt = 22 ∨ x.toInt = 23 ∨ x.toInt = 24 ∨ x.toInt = 25 ∨ x.toInt = 26 ∨ x.toInt = 27 ∨ x.toInt = 28 ∨ x.toInt = 29 ∨ x.toInt = 30 ∨ x.toInt = 31 ∨ x.toInt = 32 by omega) with q | q | q | q | q | q | q | q | q | q | q | q | q | q | q | q | q | q | q | q | q | q | q | q | q | q | q | q | q | q | q | q | q
      · exact (Or.inl (e 0 q))
      · exact (Or.inr (Or.inl (e 1 q)))
      · exact (Or.inr (Or.inr (Or.inl (e 2 q))))
      · exact (Or.inr (Or.inr (Or.inr (Or.inl (e 3 q)))))
      · exact (Or.inr (Or.inr (Or.inr (Or.inr (Or.inl (e 4 q))))))
      · exact (Or.inr (Or.inr (Or.inr (Or.inr (Or.inr (Or.inl (e 5 q)))))))
      · exact (Or.inr (Or.inr (Or.inr (Or.inr (Or.inr (Or.inr (Or.inl (e 6 q))))))))
      · exact (Or.inr (Or.inr (Or.inr (Or.inr (Or.inr (Or.inr (Or.inr (Or.inl (e 7 q)))))))))
      · exact (Or.inr (Or.inr (Or.inr (Or.inr (Or.inr (Or.inr (Or.inr (Or.inr (Or.inl (e 8 q))))))))))
      · exact (Or.inr (Or.inr (Or.inr (Or.inr (Or.inr (Or.inr (Or.inr (Or.inr (Or.inr (Or.inl (e 9 q)))))))))))
      · exact (Or.inr (Or.inr (Or.inr (Or.inr (Or.inr (Or.inr (Or.inr (Or.inr (Or.inr (Or.inr (Or.inl (e 10 q))))))))))))
      · exact (Or.inr (Or.inr (Or.inr (Or.inr (Or.inr (Or.inr (Or.inr (Or.inr (Or.inr (Or.inr (Or.inr (Or.inl (e 11 q)))))))))))))
      · exact (Or.inr (Or.inr (Or.inr (Or.inr (Or.inr (Or.inr (Or.inr (Or.inr (Or.inr (Or.inr (Or.inr (Or.inr (Or.inl (e 12 q))))))))))))))
      · exact (Or.inr (Or.inr (Or.inr (Or.inr (Or.inr (Or.inr (Or.inr (Or.inr (Or.inr (Or.inr (Or.inr (Or.inr (Or.inr (Or.inl (e 13 q)))))))))))))))
      · exact (Or.inr (Or.inr (Or.inr (Or.inr (Or.inr (Or.inr (Or.inr (Or.inr (Or.inr (Or.inr (Or.inr (Or.inr (Or.inr (Or.inr (Or.inl (e 14 q))))))))))))))))
      · exact (Or.inr (Or.inr (Or.inr (Or.inr (Or.inr (Or.inr (Or.inr (Or.inr (Or.inr (Or.inr (Or.inr (Or.inr (Or.inr (Or.inr (Or.inr (Or.inl (e 15 q)))))))))))))))))
      · exact (Or.inr (Or.inr (Or.inr (Or.inr (Or.inr (Or.inr (Or.inr (Or.inr (Or.inr (Or.inr (Or.inr (Or.inr (Or.inr (Or.inr (Or.inr (Or.inr (Or.inl (e 16 q))))))))))))))))))
      · exact (Or.inr (Or.inr (Or.inr (Or.inr (Or.inr (Or.inr (Or.inr (Or.inr (Or.inr (Or.inr (Or.inr (Or.inr (Or.inr (Or.inr (Or.inr (Or.inr (Or.inr (Or.inl (e 17 q)))))))))))))))))))
      · exact (Or.inr (Or.inr (Or.inr (Or.inr (Or.inr (Or.inr (Or.inr (Or.inr (Or.inr (Or.inr (Or.inr (Or.inr (Or.inr (Or.inr (Or.inr (Or.inr (Or.inr (Or.inr (Or.inl (e 18 q))))))))))))))))))))
      · exact (Or.inr (Or.inr (Or.inr (Or.inr (Or.inr (Or.inr (Or.inr (Or.inr (Or.inr (Or.inr (Or.inr (Or.inr (Or.inr (Or.inr (Or.inr (Or.inr (Or.inr (Or.inr (Or.inr (Or.inl (e 19 q)))))))))))))))))))))
      · exact (Or.inr (Or.inr (Or.inr (Or.inr (Or.inr (Or.inr (Or.inr (Or.inr (Or.inr (Or.inr (Or.inr (Or.inr (Or.inr (Or.inr (Or.inr (Or.inr (Or.inr (Or.inr (Or.inr (Or.inr (Or.inl (e 20 q))))))))))))))))))))))
      · exact (Or.inr (Or.inr (Or.inr (Or.inr (Or.inr (Or.inr (Or.inr (Or.inr (Or.inr (Or.inr (Or.inr (Or.inr (Or.inr (Or.inr (Or.inr (Or.inr (Or.inr (Or.inr (Or.inr (Or.inr (Or.inr (Or.inl (e 21 q)))))))))))))))))))))))
      · exact (Or.inr (Or.inr (Or.inr (Or.inr (Or.inr (Or.inr (Or.inr (Or.inr (Or.inr (Or.inr (Or.inr (Or.inr (Or.inr (Or.inr (Or.inr (Or.inr (Or.inr (Or.inr (Or.inr (Or.inr (Or.inr (Or.inr (Or.inl (e 22 q))))))))))))))))))))))))
      · exact (Or.inr (Or.inr (Or.inr (Or.inr (Or.inr (Or.inr (Or.inr (Or.inr (Or.inr (Or.inr (Or.inr (Or.inr (Or.inr (Or.inr (Or.inr (Or.inr (Or.inr (Or.inr (Or.inr (Or.inr (Or.inr (Or.inr (Or.inr (Or.inl (e 23 q)))))))))))))))))))))))))
      · exact (Or.inr (Or.inr (Or.inr (Or.inr (Or.inr (Or.inr (Or.inr (Or.inr (Or.inr (Or.inr (Or.inr (Or.inr (Or.inr (Or.inr (Or.inr (Or.inr (Or.inr (Or.inr (Or.inr (Or.inr (Or.inr (Or.inr (Or.inr (Or.inr (Or.inl (e 24 q))))))))))))))))))))))))))
      · exact (Or.inr (Or.inr (Or.inr (Or.inr (Or.inr (Or.inr (Or.inr (Or.inr (Or.inr (Or.inr (Or.inr (Or.inr (Or.inr (Or.inr (Or.inr (Or.inr (Or.inr (Or.inr (Or.inr (Or.inr (Or.inr (Or.inr (Or.inr (Or.inr (Or.inr (Or.inl (e 25 q)))))))))))))))))))))))))))
      · exact (Or.inr (Or.inr (Or.inr (Or.inr (Or.inr (Or.inr (Or.inr (Or.inr (Or.inr (Or.inr (Or.inr (Or.inr (Or.inr (Or.inr (Or.inr (Or.inr (Or.inr (Or.inr (Or.inr (Or.inr (Or.inr (Or.inr (Or.inr (Or.inr (Or.inr (Or.inr (Or.inl (e 26 q))))))))))))))))))))))))))))
      · exact (Or.inr (Or.inr (Or.inr (Or.inr (Or.inr (Or.inr (Or.inr (Or.inr (Or.inr (Or.inr (Or.inr (Or.inr (Or.inr (Or.inr (Or.inr (Or.inr (Or.inr (Or.inr (Or.inr (Or.inr (Or.inr (Or.inr (Or.inr (Or.inr (Or.inr (Or.inr (Or.inr (Or.inl (e 27 q)))))))))))))))))))))))))))))
      · exact (Or.inr (Or.inr (Or.inr (Or.inr (Or.inr (Or.inr (Or.inr (Or.inr (Or.inr (Or.inr (Or.inr (Or.inr (Or.inr (Or.inr (Or.inr (Or.inr (Or.inr (Or.inr (Or.inr (Or.inr (Or.inr (Or.inr (Or.inr (Or.inr (Or.inr (Or.inr (Or.inr (Or.inr (Or.inl (e 28 q))))))))))))))))))))))))))))))
      · exact (Or.inr (Or.inr (Or.inr (Or.inr (Or.inr (Or.inr (Or.inr (Or.inr (Or.inr (Or.inr (Or.inr (Or.inr (Or.inr (Or.inr (Or.inr (Or.inr (Or.inr (Or.inr (Or.inr (Or.inr (Or.inr (Or.inr (Or.inr (Or.inr (Or.inr (Or.inr (Or.inr (Or.inr (Or.inr (Or.inl (e 29 q)))))))))))))))))))))))))))))))
      · exact (Or.inr (Or.inr (Or.inr (Or.inr (Or.inr (Or.inr (Or.inr (Or.inr (Or.inr (Or.inr (Or.inr (Or.inr (Or.inr (Or.inr (Or.inr (Or.inr (Or.inr (Or.inr (Or.inr (Or.inr (Or.inr (Or.inr (Or.inr (Or.inr (Or.inr (Or.inr (Or.inr (Or.inr (Or.inr (Or.inr (Or.inl (e 30 q))))))))))))))))))))))))))))))))
      · exact (Or.inr (Or.inr (Or.inr (Or.inr (Or.inr (Or.inr (Or.inr (Or.inr (Or.inr (Or.inr (Or.inr (Or.inr (Or.inr (Or.inr (Or.inr (Or.inr (Or.inr (Or.inr (Or.inr (Or.inr (Or.inr (Or.inr (Or.inr (Or.inr (Or.inr (Or.inr (Or.inr (Or.inr (Or.inr (Or.inr (Or.inr (Or.inl (e 31 q)))))))))))))))))))))))))))))))))
      · exact (Or.inr (Or.inr (Or.inr (Or.inr (Or.inr (Or.inr (Or.inr (Or.inr (Or.inr (Or.inr (Or.inr (Or.inr (Or.inr (Or.inr (Or.inr (Or.inr (Or.inr (Or.inr (Or.inr (Or.inr (Or.inr (Or.inr (Or.inr (Or.inr (Or.inr (Or.inr (Or.inr (Or.inr (Or.inr (Or.inr (Or.inr (Or.inr (Or.inl (e 32 q))))))))))))))))))))))))))))))))))
theorem sw_1_3 (x : Int32) : x = 1 ∨ x = 2 ∨ x = 3 ∨ (x.toInt < 1 ∨ 3 < x.toInt) := by
  by_cases h1 : x.toInt < 1
  · exact (Or.inr (Or.inr (Or.inr (Or.inl h1))))
  · by_cases h2 : 3 < x.toInt
    · exact (Or.inr (Or.inr (Or.inr (Or.inr h2))))
    · have e : ∀ z : Int32, x.toInt = z.toInt → x = z := fun z q => Int32.toInt_inj.mp q
      rcases (show x.toInt = 1 ∨ x.toInt = 2 ∨ x.toInt = 3 by omega) with q | q | q
      · exact (Or.inl (e 1 q))
      · exact (Or.inr (Or.inl (e 2 q)))
      · exact (Or.inr (Or.inr (Or.inl (e 3 q))))
theorem mc_L_159 : Cond.constant R_L 159 (-2000000000) ∈ tbl := tbl_in (List.mem_of_getElem? (i := 622) (by decide +kernel)) rfl
theorem mc_L_328 : Cond.constant R_L 328 (1103515245) ∈ tbl := tbl_in (List.mem_of_getElem? (i := 803) (by decide +kernel)) rfl
theorem mc_M_167 : Cond.constant R_M 167 (-2000000000) ∈ tbl := tbl_in (List.mem_of_getElem? (i := 1181) (by decide +kernel)) rfl
theorem mc_M_223 : Cond.constant R_M 223 (1103515245) ∈ tbl := tbl_in (List.mem_of_getElem? (i := 1301) (by decide +kernel)) rfl
theorem mm_R_180 : Cond.methodLink R_R 180 Lib.Math.max.name ∈ tbl := tbl_in (List.mem_of_getElem? (i := 816) (by decide +kernel)) rfl
theorem mm_T_64 : Cond.methodLink R_T 64 Lib.Math.max.name ∈ tbl := tbl_in (List.mem_of_getElem? (i := 589) (by decide +kernel)) rfl
theorem mm_max_s : Cond.static Lib.Math.max.name ∈ tbl := tbl_in (List.mem_of_getElem? (i := 590) (by decide +kernel)) rfl
theorem mm_max_c : Cond.code Lib.Math.max.name Lib.Math.max.code 2 (some .int) ∈ tbl := tbl_in (List.mem_of_getElem? (i := 591) (by decide +kernel)) rfl
theorem mm_L_314 : Cond.methodLink R_L 314 Lib.Math.min.name ∈ tbl := tbl_in (List.mem_of_getElem? (i := 648) (by decide +kernel)) rfl
theorem mm_min_s : Cond.static Lib.Math.min.name ∈ tbl := tbl_in (List.mem_of_getElem? (i := 649) (by decide +kernel)) rfl
theorem mm_min_c : Cond.code Lib.Math.min.name Lib.Math.min.code 2 (some .int) ∈ tbl := tbl_in (List.mem_of_getElem? (i := 650) (by decide +kernel)) rfl
theorem mm_i : Cond.initialized "java/lang/Math" ∈ tbl := tbl_in (List.mem_of_getElem? (i := 114) (by decide +kernel)) rfl
theorem ma_L_319 : Cond.methodLink R_L 319 arraycopyName ∈ tbl := tbl_in (List.mem_of_getElem? (i := 651) (by decide +kernel)) rfl
theorem ma_n : Cond.native arraycopyName ∈ tbl := tbl_in (List.mem_of_getElem? (i := 653) (by decide +kernel)) rfl
theorem ma_s : Cond.static arraycopyName ∈ tbl := tbl_in (List.mem_of_getElem? (i := 652) (by decide +kernel)) rfl
theorem ma_i : Cond.initialized "java/lang/System" ∈ tbl := tbl_in (List.mem_of_getElem? (i := 115) (by decide +kernel)) rfl
end
