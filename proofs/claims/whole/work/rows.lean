section
-- ===== PART A: goes FIRST, ahead of the names: the tables' words, and 'selects' of the private methods out of them =====
/-- a private method of a class that the tables say can be made, by its rows of tables_1 -/
def lw_okq (q : MethodName × Nat) : Prop := (q.1.cls ≠ "java/lang/invoke/MethodHandle" ∧ q.1.cls ≠ "java/lang/invoke/VarHandle") ∧ Cond.instantiable q.1.cls q.2 ∈ tables_1 ∧ Cond.privateMethod q.1 ∈ tables_1 ∧ Cond.instanceMethod q.1 ∈ tables_1
theorem lw_p0 : lw_okq (⟨"TestEmitter", "takeTypedRow", "()LTestEmitter$TypeRow;"⟩, 10) := ⟨⟨by decide +kernel, by decide +kernel⟩, List.mem_of_getElem? (i := 18) (by decide +kernel), List.mem_of_getElem? (i := 208) (by decide +kernel), List.mem_of_getElem? (i := 209) (by decide +kernel)⟩
theorem lw_p1 : lw_okq (⟨"TestEmitter$Builder", "buildRow", "(LTestEmitter$TypeRow;ILTestEmitter$Chars;)V"⟩, 2) := ⟨⟨by decide +kernel, by decide +kernel⟩, List.mem_of_getElem? (i := 71) (by decide +kernel), List.mem_of_getElem? (i := 414) (by decide +kernel), List.mem_of_getElem? (i := 415) (by decide +kernel)⟩
theorem lw_p2 : lw_okq (⟨"TestEmitter$Builder", "build", "(LTestEmitter$Type;IILTestEmitter$Chars;)V"⟩, 2) := ⟨⟨by decide +kernel, by decide +kernel⟩, List.mem_of_getElem? (i := 71) (by decide +kernel), List.mem_of_getElem? (i := 427) (by decide +kernel), List.mem_of_getElem? (i := 428) (by decide +kernel)⟩
theorem lw_p3 : lw_okq (⟨"TestEmitter$Builder", "buildArray", "(LTestEmitter$Type;IILTestEmitter$Chars;)V"⟩, 2) := ⟨⟨by decide +kernel, by decide +kernel⟩, List.mem_of_getElem? (i := 71) (by decide +kernel), List.mem_of_getElem? (i := 440) (by decide +kernel), List.mem_of_getElem? (i := 441) (by decide +kernel)⟩
theorem lw_p4 : lw_okq (⟨"TestEmitter$Type", "elementName", "()Ljava/lang/String;"⟩, 3) := ⟨⟨by decide +kernel, by decide +kernel⟩, List.mem_of_getElem? (i := 55) (by decide +kernel), List.mem_of_getElem? (i := 455) (by decide +kernel), List.mem_of_getElem? (i := 456) (by decide +kernel)⟩
theorem lw_p5 : lw_okq (⟨"TestEmitter$Builder", "buildLong", "(LTestEmitter$Chars;)V"⟩, 2) := ⟨⟨by decide +kernel, by decide +kernel⟩, List.mem_of_getElem? (i := 71) (by decide +kernel), List.mem_of_getElem? (i := 506) (by decide +kernel), List.mem_of_getElem? (i := 507) (by decide +kernel)⟩
theorem lw_p6 : lw_okq (⟨"TestEmitter$Builder", "buildText", "(LTestEmitter$Chars;)V"⟩, 2) := ⟨⟨by decide +kernel, by decide +kernel⟩, List.mem_of_getElem? (i := 71) (by decide +kernel), List.mem_of_getElem? (i := 518) (by decide +kernel), List.mem_of_getElem? (i := 519) (by decide +kernel)⟩
theorem lw_p7 : lw_okq (⟨"TestEmitter$Builder", "buildObject", "(IILTestEmitter$Chars;)V"⟩, 2) := ⟨⟨by decide +kernel, by decide +kernel⟩, List.mem_of_getElem? (i := 71) (by decide +kernel), List.mem_of_getElem? (i := 526) (by decide +kernel), List.mem_of_getElem? (i := 527) (by decide +kernel)⟩
theorem lw_p8 : lw_okq (⟨"TestEmitter", "writeAssertion", "()V"⟩, 10) := ⟨⟨by decide +kernel, by decide +kernel⟩, List.mem_of_getElem? (i := 18) (by decide +kernel), List.mem_of_getElem? (i := 543) (by decide +kernel), List.mem_of_getElem? (i := 544) (by decide +kernel)⟩
theorem lw_p9 : lw_okq (⟨"TestEmitter", "keepBody", "(Z)I"⟩, 10) := ⟨⟨by decide +kernel, by decide +kernel⟩, List.mem_of_getElem? (i := 18) (by decide +kernel), List.mem_of_getElem? (i := 573) (by decide +kernel), List.mem_of_getElem? (i := 574) (by decide +kernel)⟩
theorem lw_p10 : lw_okq (⟨"TestEmitter", "writeCatch", "()V"⟩, 10) := ⟨⟨by decide +kernel, by decide +kernel⟩, List.mem_of_getElem? (i := 18) (by decide +kernel), List.mem_of_getElem? (i := 601) (by decide +kernel), List.mem_of_getElem? (i := 602) (by decide +kernel)⟩
theorem lw_p11 : lw_okq (⟨"TestEmitter$Text", "empty", "()V"⟩, 7) := ⟨⟨by decide +kernel, by decide +kernel⟩, List.mem_of_getElem? (i := 122) (by decide +kernel), List.mem_of_getElem? (i := 633) (by decide +kernel), List.mem_of_getElem? (i := 634) (by decide +kernel)⟩
theorem lw_p12 : lw_okq (⟨"TestEmitter$Text", "writeLine", "(Ljava/lang/String;)V"⟩, 7) := ⟨⟨by decide +kernel, by decide +kernel⟩, List.mem_of_getElem? (i := 122) (by decide +kernel), List.mem_of_getElem? (i := 639) (by decide +kernel), List.mem_of_getElem? (i := 640) (by decide +kernel)⟩
theorem lw_p13 : lw_okq (⟨"TestEmitter$Text", "endLine", "()V"⟩, 7) := ⟨⟨by decide +kernel, by decide +kernel⟩, List.mem_of_getElem? (i := 122) (by decide +kernel), List.mem_of_getElem? (i := 644) (by decide +kernel), List.mem_of_getElem? (i := 645) (by decide +kernel)⟩
theorem lw_p14 : lw_okq (⟨"TestEmitter$Text", "writeBody", "(LTestEmitter$Chars;)V"⟩, 7) := ⟨⟨by decide +kernel, by decide +kernel⟩, List.mem_of_getElem? (i := 122) (by decide +kernel), List.mem_of_getElem? (i := 661) (by decide +kernel), List.mem_of_getElem? (i := 662) (by decide +kernel)⟩
theorem lw_p15 : lw_okq (⟨"TestEmitter$Text", "writeBroken", "(LTestEmitter$Chars;II)V"⟩, 7) := ⟨⟨by decide +kernel, by decide +kernel⟩, List.mem_of_getElem? (i := 122) (by decide +kernel), List.mem_of_getElem? (i := 666) (by decide +kernel), List.mem_of_getElem? (i := 667) (by decide +kernel)⟩
def lw_privs_1 : List (MethodName × Nat) := [(⟨"TestEmitter", "takeTypedRow", "()LTestEmitter$TypeRow;"⟩, 10), (⟨"TestEmitter$Builder", "buildRow", "(LTestEmitter$TypeRow;ILTestEmitter$Chars;)V"⟩, 2), (⟨"TestEmitter$Builder", "build", "(LTestEmitter$Type;IILTestEmitter$Chars;)V"⟩, 2), (⟨"TestEmitter$Builder", "buildArray", "(LTestEmitter$Type;IILTestEmitter$Chars;)V"⟩, 2), (⟨"TestEmitter$Type", "elementName", "()Ljava/lang/String;"⟩, 3), (⟨"TestEmitter$Builder", "buildLong", "(LTestEmitter$Chars;)V"⟩, 2), (⟨"TestEmitter$Builder", "buildText", "(LTestEmitter$Chars;)V"⟩, 2), (⟨"TestEmitter$Builder", "buildObject", "(IILTestEmitter$Chars;)V"⟩, 2), (⟨"TestEmitter", "writeAssertion", "()V"⟩, 10), (⟨"TestEmitter", "keepBody", "(Z)I"⟩, 10), (⟨"TestEmitter", "writeCatch", "()V"⟩, 10), (⟨"TestEmitter$Text", "empty", "()V"⟩, 7), (⟨"TestEmitter$Text", "writeLine", "(Ljava/lang/String;)V"⟩, 7), (⟨"TestEmitter$Text", "endLine", "()V"⟩, 7), (⟨"TestEmitter$Text", "writeBody", "(LTestEmitter$Chars;)V"⟩, 7), (⟨"TestEmitter$Text", "writeBroken", "(LTestEmitter$Chars;II)V"⟩, 7)]
theorem lw_r1 : ∀ q ∈ lw_privs_1, lw_okq q := List.forall_mem_cons.mpr ⟨lw_p0, List.forall_mem_cons.mpr ⟨lw_p1, List.forall_mem_cons.mpr ⟨lw_p2, List.forall_mem_cons.mpr ⟨lw_p3, List.forall_mem_cons.mpr ⟨lw_p4, List.forall_mem_cons.mpr ⟨lw_p5, List.forall_mem_cons.mpr ⟨lw_p6, List.forall_mem_cons.mpr ⟨lw_p7, List.forall_mem_cons.mpr ⟨lw_p8, List.forall_mem_cons.mpr ⟨lw_p9, List.forall_mem_cons.mpr ⟨lw_p10, List.forall_mem_cons.mpr ⟨lw_p11, List.forall_mem_cons.mpr ⟨lw_p12, List.forall_mem_cons.mpr ⟨lw_p13, List.forall_mem_cons.mpr ⟨lw_p14, List.forall_mem_cons.mpr ⟨lw_p15, fun _ h => absurd h List.not_mem_nil⟩⟩⟩⟩⟩⟩⟩⟩⟩⟩⟩⟩⟩⟩⟩⟩
theorem lw_p16 : lw_okq (⟨"TestEmitterModel", "takeRow", "(I)I"⟩, 25) := ⟨⟨by decide +kernel, by decide +kernel⟩, List.mem_of_getElem? (i := 723) (by decide +kernel), List.mem_of_getElem? (i := 814) (by decide +kernel), List.mem_of_getElem? (i := 815) (by decide +kernel)⟩
theorem lw_p17 : lw_okq (⟨"TestEmitterModel", "typeEnd", "(I)I"⟩, 25) := ⟨⟨by decide +kernel, by decide +kernel⟩, List.mem_of_getElem? (i := 723) (by decide +kernel), List.mem_of_getElem? (i := 818) (by decide +kernel), List.mem_of_getElem? (i := 819) (by decide +kernel)⟩
theorem lw_p18 : lw_okq (⟨"TestEmitterModel", "plain", "(C)Z"⟩, 25) := ⟨⟨by decide +kernel, by decide +kernel⟩, List.mem_of_getElem? (i := 723) (by decide +kernel), List.mem_of_getElem? (i := 822) (by decide +kernel), List.mem_of_getElem? (i := 823) (by decide +kernel)⟩
theorem lw_p19 : lw_okq (⟨"TestEmitterModel", "call", "()V"⟩, 25) := ⟨⟨by decide +kernel, by decide +kernel⟩, List.mem_of_getElem? (i := 723) (by decide +kernel), List.mem_of_getElem? (i := 846) (by decide +kernel), List.mem_of_getElem? (i := 847) (by decide +kernel)⟩
theorem lw_p20 : lw_okq (⟨"TestEmitterModel", "word", "(J)V"⟩, 25) := ⟨⟨by decide +kernel, by decide +kernel⟩, List.mem_of_getElem? (i := 723) (by decide +kernel), List.mem_of_getElem? (i := 851) (by decide +kernel), List.mem_of_getElem? (i := 852) (by decide +kernel)⟩
theorem lw_p21 : lw_okq (⟨"TestEmitterModel", "put", "(I)V"⟩, 25) := ⟨⟨by decide +kernel, by decide +kernel⟩, List.mem_of_getElem? (i := 723) (by decide +kernel), List.mem_of_getElem? (i := 856) (by decide +kernel), List.mem_of_getElem? (i := 857) (by decide +kernel)⟩
theorem lw_p22 : lw_okq (⟨"TestEmitterModel", "planRow", "(I)V"⟩, 25) := ⟨⟨by decide +kernel, by decide +kernel⟩, List.mem_of_getElem? (i := 723) (by decide +kernel), List.mem_of_getElem? (i := 861) (by decide +kernel), List.mem_of_getElem? (i := 862) (by decide +kernel)⟩
theorem lw_p23 : lw_okq (⟨"TestEmitterModel", "plan", "(I)V"⟩, 25) := ⟨⟨by decide +kernel, by decide +kernel⟩, List.mem_of_getElem? (i := 723) (by decide +kernel), List.mem_of_getElem? (i := 865) (by decide +kernel), List.mem_of_getElem? (i := 866) (by decide +kernel)⟩
theorem lw_p24 : lw_okq (⟨"TestEmitterModel", "writeList", "()V"⟩, 25) := ⟨⟨by decide +kernel, by decide +kernel⟩, List.mem_of_getElem? (i := 723) (by decide +kernel), List.mem_of_getElem? (i := 869) (by decide +kernel), List.mem_of_getElem? (i := 870) (by decide +kernel)⟩
theorem lw_p25 : lw_okq (⟨"TestEmitterModel", "value", "(IZ)V"⟩, 25) := ⟨⟨by decide +kernel, by decide +kernel⟩, List.mem_of_getElem? (i := 723) (by decide +kernel), List.mem_of_getElem? (i := 873) (by decide +kernel), List.mem_of_getElem? (i := 874) (by decide +kernel)⟩
theorem lw_p26 : lw_okq (⟨"TestEmitterModel", "array", "(IZ)V"⟩, 25) := ⟨⟨by decide +kernel, by decide +kernel⟩, List.mem_of_getElem? (i := 723) (by decide +kernel), List.mem_of_getElem? (i := 877) (by decide +kernel), List.mem_of_getElem? (i := 878) (by decide +kernel)⟩
theorem lw_p27 : lw_okq (⟨"TestEmitterModel", "next", "()I"⟩, 25) := ⟨⟨by decide +kernel, by decide +kernel⟩, List.mem_of_getElem? (i := 723) (by decide +kernel), List.mem_of_getElem? (i := 881) (by decide +kernel), List.mem_of_getElem? (i := 882) (by decide +kernel)⟩
theorem lw_p28 : lw_okq (⟨"TestEmitterModel", "nothing", "()V"⟩, 25) := ⟨⟨by decide +kernel, by decide +kernel⟩, List.mem_of_getElem? (i := 723) (by decide +kernel), List.mem_of_getElem? (i := 885) (by decide +kernel), List.mem_of_getElem? (i := 886) (by decide +kernel)⟩
theorem lw_p29 : lw_okq (⟨"TestEmitterModel", "arrayName", "(I)V"⟩, 25) := ⟨⟨by decide +kernel, by decide +kernel⟩, List.mem_of_getElem? (i := 723) (by decide +kernel), List.mem_of_getElem? (i := 891) (by decide +kernel), List.mem_of_getElem? (i := 892) (by decide +kernel)⟩
theorem lw_p30 : lw_okq (⟨"TestEmitterModel", "object", "(I)V"⟩, 25) := ⟨⟨by decide +kernel, by decide +kernel⟩, List.mem_of_getElem? (i := 723) (by decide +kernel), List.mem_of_getElem? (i := 904) (by decide +kernel), List.mem_of_getElem? (i := 905) (by decide +kernel)⟩
theorem lw_p31 : lw_okq (⟨"TestEmitterModel", "wide", "()V"⟩, 25) := ⟨⟨by decide +kernel, by decide +kernel⟩, List.mem_of_getElem? (i := 723) (by decide +kernel), List.mem_of_getElem? (i := 911) (by decide +kernel), List.mem_of_getElem? (i := 912) (by decide +kernel)⟩
def lw_privs_2 : List (MethodName × Nat) := [(⟨"TestEmitterModel", "takeRow", "(I)I"⟩, 25), (⟨"TestEmitterModel", "typeEnd", "(I)I"⟩, 25), (⟨"TestEmitterModel", "plain", "(C)Z"⟩, 25), (⟨"TestEmitterModel", "call", "()V"⟩, 25), (⟨"TestEmitterModel", "word", "(J)V"⟩, 25), (⟨"TestEmitterModel", "put", "(I)V"⟩, 25), (⟨"TestEmitterModel", "planRow", "(I)V"⟩, 25), (⟨"TestEmitterModel", "plan", "(I)V"⟩, 25), (⟨"TestEmitterModel", "writeList", "()V"⟩, 25), (⟨"TestEmitterModel", "value", "(IZ)V"⟩, 25), (⟨"TestEmitterModel", "array", "(IZ)V"⟩, 25), (⟨"TestEmitterModel", "next", "()I"⟩, 25), (⟨"TestEmitterModel", "nothing", "()V"⟩, 25), (⟨"TestEmitterModel", "arrayName", "(I)V"⟩, 25), (⟨"TestEmitterModel", "object", "(I)V"⟩, 25), (⟨"TestEmitterModel", "wide", "()V"⟩, 25)]
theorem lw_r2 : ∀ q ∈ lw_privs_2, lw_okq q := List.forall_mem_cons.mpr ⟨lw_p16, List.forall_mem_cons.mpr ⟨lw_p17, List.forall_mem_cons.mpr ⟨lw_p18, List.forall_mem_cons.mpr ⟨lw_p19, List.forall_mem_cons.mpr ⟨lw_p20, List.forall_mem_cons.mpr ⟨lw_p21, List.forall_mem_cons.mpr ⟨lw_p22, List.forall_mem_cons.mpr ⟨lw_p23, List.forall_mem_cons.mpr ⟨lw_p24, List.forall_mem_cons.mpr ⟨lw_p25, List.forall_mem_cons.mpr ⟨lw_p26, List.forall_mem_cons.mpr ⟨lw_p27, List.forall_mem_cons.mpr ⟨lw_p28, List.forall_mem_cons.mpr ⟨lw_p29, List.forall_mem_cons.mpr ⟨lw_p30, List.forall_mem_cons.mpr ⟨lw_p31, fun _ h => absurd h List.not_mem_nil⟩⟩⟩⟩⟩⟩⟩⟩⟩⟩⟩⟩⟩⟩⟩⟩
theorem lw_p32 : lw_okq (⟨"TestEmitterModel", "least", "(J)V"⟩, 25) := ⟨⟨by decide +kernel, by decide +kernel⟩, List.mem_of_getElem? (i := 723) (by decide +kernel), List.mem_of_getElem? (i := 919) (by decide +kernel), List.mem_of_getElem? (i := 920) (by decide +kernel)⟩
theorem lw_p33 : lw_okq (⟨"TestEmitterModel", "number", "(J)V"⟩, 25) := ⟨⟨by decide +kernel, by decide +kernel⟩, List.mem_of_getElem? (i := 723) (by decide +kernel), List.mem_of_getElem? (i := 925) (by decide +kernel), List.mem_of_getElem? (i := 926) (by decide +kernel)⟩
theorem lw_p34 : lw_okq (⟨"TestEmitterModel", "narrow", "(J)J"⟩, 25) := ⟨⟨by decide +kernel, by decide +kernel⟩, List.mem_of_getElem? (i := 723) (by decide +kernel), List.mem_of_getElem? (i := 932) (by decide +kernel), List.mem_of_getElem? (i := 933) (by decide +kernel)⟩
theorem lw_p35 : lw_okq (⟨"TestEmitterModel", "pointed", "(J)V"⟩, 25) := ⟨⟨by decide +kernel, by decide +kernel⟩, List.mem_of_getElem? (i := 723) (by decide +kernel), List.mem_of_getElem? (i := 938) (by decide +kernel), List.mem_of_getElem? (i := 939) (by decide +kernel)⟩
theorem lw_p36 : lw_okq (⟨"TestEmitterModel", "texts", "()V"⟩, 25) := ⟨⟨by decide +kernel, by decide +kernel⟩, List.mem_of_getElem? (i := 723) (by decide +kernel), List.mem_of_getElem? (i := 943) (by decide +kernel), List.mem_of_getElem? (i := 944) (by decide +kernel)⟩
theorem lw_p37 : lw_okq (⟨"TestEmitterModel", "character", "(II)V"⟩, 25) := ⟨⟨by decide +kernel, by decide +kernel⟩, List.mem_of_getElem? (i := 723) (by decide +kernel), List.mem_of_getElem? (i := 948) (by decide +kernel), List.mem_of_getElem? (i := 949) (by decide +kernel)⟩
theorem lw_p38 : lw_okq (⟨"TestEmitterModel", "whole", "(C)V"⟩, 25) := ⟨⟨by decide +kernel, by decide +kernel⟩, List.mem_of_getElem? (i := 723) (by decide +kernel), List.mem_of_getElem? (i := 952) (by decide +kernel), List.mem_of_getElem? (i := 953) (by decide +kernel)⟩
theorem lw_p39 : lw_okq (⟨"TestEmitterModel", "assertion", "(J)V"⟩, 25) := ⟨⟨by decide +kernel, by decide +kernel⟩, List.mem_of_getElem? (i := 723) (by decide +kernel), List.mem_of_getElem? (i := 962) (by decide +kernel), List.mem_of_getElem? (i := 963) (by decide +kernel)⟩
theorem lw_p40 : lw_okq (⟨"TestEmitterModel", "copyPart", "(I)V"⟩, 25) := ⟨⟨by decide +kernel, by decide +kernel⟩, List.mem_of_getElem? (i := 723) (by decide +kernel), List.mem_of_getElem? (i := 971) (by decide +kernel), List.mem_of_getElem? (i := 972) (by decide +kernel)⟩
theorem lw_p41 : lw_okq (⟨"TestEmitterModel", "add", "(Z)I"⟩, 25) := ⟨⟨by decide +kernel, by decide +kernel⟩, List.mem_of_getElem? (i := 723) (by decide +kernel), List.mem_of_getElem? (i := 977) (by decide +kernel), List.mem_of_getElem? (i := 978) (by decide +kernel)⟩
theorem lw_p42 : lw_okq (⟨"TestEmitterModel", "sameBody", "(II)Z"⟩, 25) := ⟨⟨by decide +kernel, by decide +kernel⟩, List.mem_of_getElem? (i := 723) (by decide +kernel), List.mem_of_getElem? (i := 981) (by decide +kernel), List.mem_of_getElem? (i := 982) (by decide +kernel)⟩
theorem lw_p43 : lw_okq (⟨"TestEmitterModel", "bodyAt", "(II)I"⟩, 25) := ⟨⟨by decide +kernel, by decide +kernel⟩, List.mem_of_getElem? (i := 723) (by decide +kernel), List.mem_of_getElem? (i := 985) (by decide +kernel), List.mem_of_getElem? (i := 986) (by decide +kernel)⟩
theorem lw_p44 : lw_okq (⟨"TestEmitterModel", "letters", "()Z"⟩, 25) := ⟨⟨by decide +kernel, by decide +kernel⟩, List.mem_of_getElem? (i := 723) (by decide +kernel), List.mem_of_getElem? (i := 993) (by decide +kernel), List.mem_of_getElem? (i := 994) (by decide +kernel)⟩
theorem lw_p45 : lw_okq (⟨"TestEmitterModel", "name", "(I)V"⟩, 25) := ⟨⟨by decide +kernel, by decide +kernel⟩, List.mem_of_getElem? (i := 723) (by decide +kernel), List.mem_of_getElem? (i := 1001) (by decide +kernel), List.mem_of_getElem? (i := 1002) (by decide +kernel)⟩
theorem lw_p46 : lw_okq (⟨"TestEmitterModel", "outWord", "(J)V"⟩, 25) := ⟨⟨by decide +kernel, by decide +kernel⟩, List.mem_of_getElem? (i := 723) (by decide +kernel), List.mem_of_getElem? (i := 1021) (by decide +kernel), List.mem_of_getElem? (i := 1022) (by decide +kernel)⟩
theorem lw_p47 : lw_okq (⟨"TestEmitterModel", "out", "(I)V"⟩, 25) := ⟨⟨by decide +kernel, by decide +kernel⟩, List.mem_of_getElem? (i := 723) (by decide +kernel), List.mem_of_getElem? (i := 1025) (by decide +kernel), List.mem_of_getElem? (i := 1026) (by decide +kernel)⟩
def lw_privs_3 : List (MethodName × Nat) := [(⟨"TestEmitterModel", "least", "(J)V"⟩, 25), (⟨"TestEmitterModel", "number", "(J)V"⟩, 25), (⟨"TestEmitterModel", "narrow", "(J)J"⟩, 25), (⟨"TestEmitterModel", "pointed", "(J)V"⟩, 25), (⟨"TestEmitterModel", "texts", "()V"⟩, 25), (⟨"TestEmitterModel", "character", "(II)V"⟩, 25), (⟨"TestEmitterModel", "whole", "(C)V"⟩, 25), (⟨"TestEmitterModel", "assertion", "(J)V"⟩, 25), (⟨"TestEmitterModel", "copyPart", "(I)V"⟩, 25), (⟨"TestEmitterModel", "add", "(Z)I"⟩, 25), (⟨"TestEmitterModel", "sameBody", "(II)Z"⟩, 25), (⟨"TestEmitterModel", "bodyAt", "(II)I"⟩, 25), (⟨"TestEmitterModel", "letters", "()Z"⟩, 25), (⟨"TestEmitterModel", "name", "(I)V"⟩, 25), (⟨"TestEmitterModel", "outWord", "(J)V"⟩, 25), (⟨"TestEmitterModel", "out", "(I)V"⟩, 25)]
theorem lw_r3 : ∀ q ∈ lw_privs_3, lw_okq q := List.forall_mem_cons.mpr ⟨lw_p32, List.forall_mem_cons.mpr ⟨lw_p33, List.forall_mem_cons.mpr ⟨lw_p34, List.forall_mem_cons.mpr ⟨lw_p35, List.forall_mem_cons.mpr ⟨lw_p36, List.forall_mem_cons.mpr ⟨lw_p37, List.forall_mem_cons.mpr ⟨lw_p38, List.forall_mem_cons.mpr ⟨lw_p39, List.forall_mem_cons.mpr ⟨lw_p40, List.forall_mem_cons.mpr ⟨lw_p41, List.forall_mem_cons.mpr ⟨lw_p42, List.forall_mem_cons.mpr ⟨lw_p43, List.forall_mem_cons.mpr ⟨lw_p44, List.forall_mem_cons.mpr ⟨lw_p45, List.forall_mem_cons.mpr ⟨lw_p46, List.forall_mem_cons.mpr ⟨lw_p47, fun _ h => absurd h List.not_mem_nil⟩⟩⟩⟩⟩⟩⟩⟩⟩⟩⟩⟩⟩⟩⟩⟩
theorem lw_p48 : lw_okq (⟨"TestEmitterModel", "setText", "(II)V"⟩, 25) := ⟨⟨by decide +kernel, by decide +kernel⟩, List.mem_of_getElem? (i := 723) (by decide +kernel), List.mem_of_getElem? (i := 1029) (by decide +kernel), List.mem_of_getElem? (i := 1030) (by decide +kernel)⟩
theorem lw_p49 : lw_okq (⟨"TestEmitterModel", "endLine", "(I)V"⟩, 25) := ⟨⟨by decide +kernel, by decide +kernel⟩, List.mem_of_getElem? (i := 723) (by decide +kernel), List.mem_of_getElem? (i := 1036) (by decide +kernel), List.mem_of_getElem? (i := 1037) (by decide +kernel)⟩
theorem lw_p50 : lw_okq (⟨"TestEmitterModel", "blanks", "(I)V"⟩, 25) := ⟨⟨by decide +kernel, by decide +kernel⟩, List.mem_of_getElem? (i := 723) (by decide +kernel), List.mem_of_getElem? (i := 1040) (by decide +kernel), List.mem_of_getElem? (i := 1041) (by decide +kernel)⟩
theorem lw_p51 : lw_okq (⟨"TestEmitterModel", "outNumber", "(I)V"⟩, 25) := ⟨⟨by decide +kernel, by decide +kernel⟩, List.mem_of_getElem? (i := 723) (by decide +kernel), List.mem_of_getElem? (i := 1047) (by decide +kernel), List.mem_of_getElem? (i := 1048) (by decide +kernel)⟩
theorem lw_p52 : lw_okq (⟨"TestEmitterModel", "outBody", "(I)V"⟩, 25) := ⟨⟨by decide +kernel, by decide +kernel⟩, List.mem_of_getElem? (i := 723) (by decide +kernel), List.mem_of_getElem? (i := 1052) (by decide +kernel), List.mem_of_getElem? (i := 1053) (by decide +kernel)⟩
theorem lw_p53 : lw_okq (⟨"TestEmitterModel", "endBroken", "(I)V"⟩, 25) := ⟨⟨by decide +kernel, by decide +kernel⟩, List.mem_of_getElem? (i := 723) (by decide +kernel), List.mem_of_getElem? (i := 1056) (by decide +kernel), List.mem_of_getElem? (i := 1057) (by decide +kernel)⟩
theorem lw_p54 : lw_okq (⟨"TestEmitterModel", "textAt", "(I)I"⟩, 25) := ⟨⟨by decide +kernel, by decide +kernel⟩, List.mem_of_getElem? (i := 723) (by decide +kernel), List.mem_of_getElem? (i := 1060) (by decide +kernel), List.mem_of_getElem? (i := 1061) (by decide +kernel)⟩
theorem lw_p55 : lw_okq (⟨"TestEmitterModel", "comma", "(II)I"⟩, 25) := ⟨⟨by decide +kernel, by decide +kernel⟩, List.mem_of_getElem? (i := 723) (by decide +kernel), List.mem_of_getElem? (i := 1064) (by decide +kernel), List.mem_of_getElem? (i := 1065) (by decide +kernel)⟩
def lw_privs_4 : List (MethodName × Nat) := [(⟨"TestEmitterModel", "setText", "(II)V"⟩, 25), (⟨"TestEmitterModel", "endLine", "(I)V"⟩, 25), (⟨"TestEmitterModel", "blanks", "(I)V"⟩, 25), (⟨"TestEmitterModel", "outNumber", "(I)V"⟩, 25), (⟨"TestEmitterModel", "outBody", "(I)V"⟩, 25), (⟨"TestEmitterModel", "endBroken", "(I)V"⟩, 25), (⟨"TestEmitterModel", "textAt", "(I)I"⟩, 25), (⟨"TestEmitterModel", "comma", "(II)I"⟩, 25)]
theorem lw_r4 : ∀ q ∈ lw_privs_4, lw_okq q := List.forall_mem_cons.mpr ⟨lw_p48, List.forall_mem_cons.mpr ⟨lw_p49, List.forall_mem_cons.mpr ⟨lw_p50, List.forall_mem_cons.mpr ⟨lw_p51, List.forall_mem_cons.mpr ⟨lw_p52, List.forall_mem_cons.mpr ⟨lw_p53, List.forall_mem_cons.mpr ⟨lw_p54, List.forall_mem_cons.mpr ⟨lw_p55, fun _ h => absurd h List.not_mem_nil⟩⟩⟩⟩⟩⟩⟩⟩
def lw_privs : List (MethodName × Nat) := lw_privs_1 ++ (lw_privs_2 ++ (lw_privs_3 ++ (lw_privs_4)))
def lw_tbl : List Cond := k2_sels lw_privs ++ tables_1
theorem lw_privs_ok : ∀ q ∈ lw_privs, lw_okq q := by
  show ∀ q ∈ lw_privs_1 ++ (lw_privs_2 ++ (lw_privs_3 ++ (lw_privs_4))), lw_okq q
  exact List.forall_mem_append.mpr ⟨lw_r1, List.forall_mem_append.mpr ⟨lw_r2, List.forall_mem_append.mpr ⟨lw_r3, lw_r4⟩⟩⟩
/-! TABLES, by program (tool/gen.py) -/
def cNl : List String := ["TestEmitter", "TestEmitter$Chars", "TestEmitter$TypeRow", "TestEmitter$Type", "TestEmitter$Builder", "TestEmitter$Data", "TestEmitter$Suite", "TestEmitter$Text", "TestEmitterModel", "java/lang/String"]
def cN (ci : Nat) : String := cNl.getD ci ""
def cT_0 : u_T := fun k => match k with
  | 0 => ("TestEmitter", "typed", "LTestEmitter$Chars;", true)
  | 1 => ("TestEmitter", "arguments", "LTestEmitter$TypeRow;", false)
  | 2 => ("TestEmitter", "outcome", "LTestEmitter$Type;", false)
  | 3 => ("TestEmitter", "builder", "LTestEmitter$Builder;", true)
  | 4 => ("TestEmitter", "call", "LTestEmitter$Chars;", true)
  | 5 => ("TestEmitter", "literal", "LTestEmitter$Chars;", true)
  | 6 => ("TestEmitter", "body", "LTestEmitter$Chars;", true)
  | 7 => ("TestEmitter", "suite", "LTestEmitter$Suite;", true)
  | 8 => ("TestEmitter", "text", "LTestEmitter$Text;", true)
  | _ => ("TestEmitter", "lastTaken", "I", false)
def cF_0 : Nat → FieldType := fun k => match k with
  | 0 => .object "TestEmitter$Chars"
  | 1 => .object "TestEmitter$TypeRow"
  | 2 => .object "TestEmitter$Type"
  | 3 => .object "TestEmitter$Builder"
  | 4 => .object "TestEmitter$Chars"
  | 5 => .object "TestEmitter$Chars"
  | 6 => .object "TestEmitter$Chars"
  | 7 => .object "TestEmitter$Suite"
  | 8 => .object "TestEmitter$Text"
  | _ => .int
def cT_1 : u_T := fun k => match k with
  | 0 => ("TestEmitter$Chars", "chars", "[C", false)
  | _ => ("TestEmitter$Chars", "length", "I", false)
def cF_1 : Nat → FieldType := fun k => match k with
  | 0 => .array .char
  | _ => .int
def cT_2 : u_T := fun k => match k with
  | 0 => ("TestEmitter$TypeRow", "types", "[LTestEmitter$Type;", true)
  | _ => ("TestEmitter$TypeRow", "size", "I", false)
def cF_2 : Nat → FieldType := fun k => match k with
  | 0 => .array (.object "TestEmitter$Type")
  | _ => .int
def cT_3 : u_T := fun k => match k with
  | 0 => ("TestEmitter$Type", "brackets", "I", true)
  | 1 => ("TestEmitter$Type", "letter", "I", true)
  | _ => ("TestEmitter$Type", "classNumber", "I", true)
def cF_3 : Nat → FieldType := fun k => match k with
  | 0 => .int
  | 1 => .int
  | _ => .int
def cT_4 : u_T := fun k => match k with
  | 0 => ("TestEmitter$Builder", "numbers", "LTestEmitter$Data;", true)
  | _ => ("TestEmitter$Builder", "classes", "[LTestEmitter$TypeRow;", true)
def cF_4 : Nat → FieldType := fun k => match k with
  | 0 => .object "TestEmitter$Data"
  | _ => .array (.object "TestEmitter$TypeRow")
def cT_5 : u_T := fun k => match k with
  | 0 => ("TestEmitter$Data", "ints", "[I", true)
  | 1 => ("TestEmitter$Data", "size", "I", false)
  | _ => ("TestEmitter$Data", "used", "I", false)
def cF_5 : Nat → FieldType := fun k => match k with
  | 0 => .array .int
  | 1 => .int
  | _ => .int
def cT_6 : u_T := fun k => match k with
  | 0 => ("TestEmitter$Suite", "bodies", "[LTestEmitter$Chars;", true)
  | 1 => ("TestEmitter$Suite", "size", "I", false)
  | _ => ("TestEmitter$Suite", "thrown", "I", false)
def cF_6 : Nat → FieldType := fun k => match k with
  | 0 => .array (.object "TestEmitter$Chars")
  | 1 => .int
  | _ => .int
def cT_7 : u_T := fun k => match k with
  | 0 => ("TestEmitter$Text", "width", "I", true)
  | 1 => ("TestEmitter$Text", "chars", "LTestEmitter$Chars;", true)
  | 2 => ("TestEmitter$Text", "starts", "[I", false)
  | 3 => ("TestEmitter$Text", "lines", "I", false)
  | 4 => ("TestEmitter$Text", "nextStart", "I", false)
  | 5 => ("TestEmitter$Text", "longest", "I", false)
  | _ => ("TestEmitter$Text", "broken", "I", false)
def cF_7 : Nat → FieldType := fun k => match k with
  | 0 => .int
  | 1 => .object "TestEmitter$Chars"
  | 2 => .array .int
  | 3 => .int
  | 4 => .int
  | 5 => .int
  | _ => .int
def cT_8 : u_T := fun k => match k with
  | 0 => ("TestEmitterModel", "width", "I", true)
  | 1 => ("TestEmitterModel", "typed", "I", false)
  | 2 => ("TestEmitterModel", "many", "I", false)
  | 3 => ("TestEmitterModel", "tests", "I", false)
  | 4 => ("TestEmitterModel", "used", "I", false)
  | 5 => ("TestEmitterModel", "took", "I", false)
  | 6 => ("TestEmitterModel", "size", "I", false)
  | 7 => ("TestEmitterModel", "lines", "I", false)
  | 8 => ("TestEmitterModel", "longest", "I", false)
  | 9 => ("TestEmitterModel", "added", "I", false)
  | 10 => ("TestEmitterModel", "line", "[C", true)
  | 11 => ("TestEmitterModel", "types", "[C", true)
  | 12 => ("TestEmitterModel", "typeSize", "[I", true)
  | 13 => ("TestEmitterModel", "data", "[I", true)
  | 14 => ("TestEmitterModel", "bodies", "[I", true)
  | 15 => ("TestEmitterModel", "text", "[I", true)
  | 16 => ("TestEmitterModel", "bodySize", "[I", true)
  | 17 => ("TestEmitterModel", "thrown", "[Z", true)
  | 18 => ("TestEmitterModel", "part", "[C", true)
  | 19 => ("TestEmitterModel", "partSize", "[I", true)
  | 20 => ("TestEmitterModel", "into", "I", false)
  | 21 => ("TestEmitterModel", "around", "I", false)
  | 22 => ("TestEmitterModel", "todo", "[I", true)
  | 23 => ("TestEmitterModel", "left", "I", false)
  | _ => ("TestEmitterModel", "isNull", "Z", false)
def cF_8 : Nat → FieldType := fun k => match k with
  | 0 => .int
  | 1 => .int
  | 2 => .int
  | 3 => .int
  | 4 => .int
  | 5 => .int
  | 6 => .int
  | 7 => .int
  | 8 => .int
  | 9 => .int
  | 10 => .array .char
  | 11 => .array .char
  | 12 => .array .int
  | 13 => .array .int
  | 14 => .array .int
  | 15 => .array .int
  | 16 => .array .int
  | 17 => .array .boolean
  | 18 => .array .char
  | 19 => .array .int
  | 20 => .int
  | 21 => .int
  | 22 => .array .int
  | 23 => .int
  | _ => .boolean
def cT_9 : u_T := fun k => match k with
  | 0 => ("java/lang/String", "value", "[B", true)
  | _ => ("java/lang/String", "coder", "B", true)
def cF_9 : Nat → FieldType := fun k => match k with
  | 0 => .array .byte
  | _ => .byte
def cTl : List u_T := [cT_0, cT_1, cT_2, cT_3, cT_4, cT_5, cT_6, cT_7, cT_8, cT_9]
def cT (ci : Nat) : u_T := cTl.getD ci cT_0
def cFl : List (Nat → FieldType) := [cF_0, cF_1, cF_2, cF_3, cF_4, cF_5, cF_6, cF_7, cF_8, cF_9]
def cF (ci : Nat) : Nat → FieldType := cFl.getD ci cF_0
def cSl : List Nat := [10, 2, 2, 3, 2, 3, 3, 7, 25, 2]
def cS (ci : Nat) : Nat := cSl.getD ci 0
def cO : Nat := 9
def cAll : Nat := 10
abbrev MT : Type := MethodName × ByteArray × Nat × Option FieldType × Nat × Nat
def mt_0 : MT := (⟨"TestEmitterLaw", "law", "([I)Z"⟩, code, 4, some (.boolean), 1, 99)
def mt_1 : MT := (⟨"TestEmitter", "<init>", "(I)V"⟩, prog_1_method_1_code, 2, none, 1, 0)
def mt_2 : MT := (⟨"TestEmitter$Chars", "<init>", "(I)V"⟩, prog_3_method_1_code, 2, none, 1, 1)
def mt_3 : MT := (⟨"TestEmitter$TypeRow", "<init>", "()V"⟩, prog_8_method_1_code, 1, none, 0, 2)
def mt_4 : MT := (⟨"TestEmitter$Type", "<init>", "(III)V"⟩, prog_7_method_1_code, 4, none, 3, 3)
def mt_5 : MT := (⟨"TestEmitter$Builder", "<init>", "()V"⟩, prog_2_method_1_code, 2, none, 0, 4)
def mt_6 : MT := (⟨"TestEmitter$Data", "<init>", "()V"⟩, prog_4_method_1_code, 1, none, 0, 5)
def mt_7 : MT := (⟨"TestEmitter$Suite", "<init>", "()V"⟩, prog_5_method_1_code, 1, none, 0, 6)
def mt_8 : MT := (⟨"TestEmitter$Text", "<init>", "(I)V"⟩, prog_6_method_1_code, 2, none, 1, 7)
def mt_9 : MT := (⟨"TestEmitter", "type", "(I)I"⟩, prog_1_method_2_code, 2, some (.int), 1, 0)
def mt_10 : MT := (⟨"TestEmitter$Chars", "length", "()I"⟩, prog_3_method_2_code, 1, some (.int), 0, 1)
def mt_11 : MT := (⟨"TestEmitter$Chars", "put", "(I)V"⟩, prog_3_method_5_code, 3, none, 1, 1)
def mt_12 : MT := (⟨"TestEmitter", "fields", "(I)I"⟩, prog_1_method_3_code, 3, some (.int), 1, 0)
def mt_13 : MT := (⟨"TestEmitter", "takeTypedRow", "()LTestEmitter$TypeRow;"⟩, prog_1_method_16_code, 2, some (.object "TestEmitter$TypeRow"), 0, 0)
def mt_14 : MT := (⟨"TestEmitter$TypeRow", "read", "(LTestEmitter$Chars;)LTestEmitter$TypeRow;"⟩, prog_8_method_2_code, 4, some (.object "TestEmitter$TypeRow"), 1, 2)
def mt_15 : MT := (⟨"TestEmitter$Type", "read", "(LTestEmitter$Chars;I)LTestEmitter$Type;"⟩, prog_7_method_2_code, 6, some (.object "TestEmitter$Type"), 2, 3)
def mt_16 : MT := (⟨"TestEmitter$Chars", "get", "(I)I"⟩, prog_3_method_3_code, 2, some (.int), 1, 1)
def mt_17 : MT := (⟨"TestEmitter$Type", "spelledLength", "()I"⟩, prog_7_method_4_code, 1, some (.int), 0, 3)
def mt_18 : MT := (⟨"TestEmitter$Chars", "empty", "()V"⟩, prog_3_method_4_code, 1, none, 0, 1)
def mt_19 : MT := (⟨"TestEmitter$Builder", "setFields", "(ILTestEmitter$TypeRow;)V"⟩, prog_2_method_3_code, 3, none, 2, 4)
def mt_20 : MT := (⟨"TestEmitter$TypeRow", "size", "()I"⟩, prog_8_method_3_code, 1, some (.int), 0, 2)
def mt_21 : MT := (⟨"TestEmitter", "parameters", "()I"⟩, prog_1_method_4_code, 2, some (.int), 0, 0)
def mt_22 : MT := (⟨"TestEmitter", "result", "()I"⟩, prog_1_method_5_code, 2, some (.int), 0, 0)
def mt_23 : MT := (⟨"TestEmitter$Type", "readResult", "(LTestEmitter$Chars;)LTestEmitter$Type;"⟩, prog_7_method_3_code, 2, some (.object "TestEmitter$Type"), 1, 3)
def mt_24 : MT := (⟨"TestEmitter$Chars", "holds", "(Ljava/lang/String;)Z"⟩, prog_3_method_11_code, 3, some (.boolean), 1, 1)
def mt_25 : MT := (⟨"TestEmitter", "data", "(I)I"⟩, prog_1_method_6_code, 2, some (.int), 1, 0)
def mt_26 : MT := (⟨"TestEmitter$Builder", "numbers", "()LTestEmitter$Data;"⟩, prog_2_method_2_code, 1, some (.object "TestEmitter$Data"), 0, 4)
def mt_27 : MT := (⟨"TestEmitter$Data", "add", "(I)Z"⟩, prog_4_method_2_code, 2, some (.boolean), 1, 5)
def mt_28 : MT := (⟨"TestEmitter$Data", "size", "()I"⟩, prog_4_method_3_code, 1, some (.int), 0, 5)
def mt_29 : MT := (⟨"TestEmitter", "clear", "()I"⟩, prog_1_method_7_code, 2, some (.int), 0, 0)
def mt_30 : MT := (⟨"TestEmitter$Data", "empty", "()V"⟩, prog_4_method_5_code, 1, none, 0, 5)
def mt_31 : MT := (⟨"TestEmitter", "returned", "()I"⟩, prog_1_method_8_code, 1, some (.int), 0, 0)
def mt_32 : MT := (⟨"TestEmitter$Suite", "isFull", "()Z"⟩, prog_5_method_4_code, 1, some (.boolean), 0, 6)
def mt_33 : MT := (⟨"TestEmitter$Builder", "buildCall", "(LTestEmitter$TypeRow;LTestEmitter$Chars;)V"⟩, prog_2_method_4_code, 3, none, 2, 4)
def mt_34 : MT := (⟨"TestEmitter$Data", "rewind", "()V"⟩, prog_4_method_6_code, 1, none, 0, 5)
def mt_35 : MT := (⟨"TestEmitter$Chars", "put", "(Ljava/lang/String;)V"⟩, prog_3_method_6_code, 3, none, 1, 1)
def mt_36 : MT := (⟨"TestEmitter$Builder", "buildRow", "(LTestEmitter$TypeRow;ILTestEmitter$Chars;)V"⟩, prog_2_method_6_code, 5, none, 3, 4)
def mt_37 : MT := (⟨"TestEmitter$Builder", "putSeparator", "(ILTestEmitter$Chars;)V"⟩, prog_2_method_15_code, 2, none, 2, 4)
def mt_38 : MT := (⟨"TestEmitter$TypeRow", "get", "(I)LTestEmitter$Type;"⟩, prog_8_method_4_code, 2, some (.object "TestEmitter$Type"), 1, 2)
def mt_39 : MT := (⟨"TestEmitter$Builder", "build", "(LTestEmitter$Type;IILTestEmitter$Chars;)V"⟩, prog_2_method_7_code, 5, none, 4, 4)
def mt_40 : MT := (⟨"TestEmitter$Data", "isUsedUp", "()Z"⟩, prog_4_method_7_code, 1, some (.boolean), 0, 5)
def mt_41 : MT := (⟨"TestEmitter$Type", "brackets", "()I"⟩, prog_7_method_5_code, 1, some (.int), 0, 3)
def mt_42 : MT := (⟨"TestEmitter$Builder", "buildArray", "(LTestEmitter$Type;IILTestEmitter$Chars;)V"⟩, prog_2_method_8_code, 7, none, 4, 4)
def mt_43 : MT := (⟨"TestEmitter$Data", "next", "()I"⟩, prog_4_method_8_code, 1, some (.int), 0, 5)
def mt_44 : MT := (⟨"TestEmitter$Type", "putArrayName", "(LTestEmitter$Chars;)V"⟩, prog_7_method_9_code, 3, none, 1, 3)
def mt_45 : MT := (⟨"TestEmitter$Type", "elementName", "()Ljava/lang/String;"⟩, prog_7_method_10_code, 1, some (.object "java/lang/String"), 0, 3)
def mt_46 : MT := (⟨"TestEmitter$Type", "letter", "()I"⟩, prog_7_method_6_code, 1, some (.int), 0, 3)
def mt_47 : MT := (⟨"TestEmitter$Chars", "putNumber", "(J)V"⟩, prog_3_method_10_code, 6, none, 1, 1)
def mt_48 : MT := (⟨"TestEmitter$Builder", "putCharacter", "(ICLTestEmitter$Chars;)V"⟩, prog_2_method_14_code, 5, none, 3, 4)
def mt_49 : MT := (⟨"TestEmitter$Builder", "putInt", "(ILTestEmitter$Chars;)V"⟩, prog_2_method_12_code, 2, none, 2, 4)
def mt_50 : MT := (⟨"TestEmitter$Builder", "buildLong", "(LTestEmitter$Chars;)V"⟩, prog_2_method_11_code, 8, none, 1, 4)
def mt_51 : MT := (⟨"TestEmitter$Builder", "putEighths", "(JLTestEmitter$Chars;)V"⟩, prog_2_method_13_code, 6, none, 2, 4)
def mt_52 : MT := (⟨"TestEmitter$Builder", "buildText", "(LTestEmitter$Chars;)V"⟩, prog_2_method_10_code, 4, none, 1, 4)
def mt_53 : MT := (⟨"TestEmitter$Type", "classNumber", "()I"⟩, prog_7_method_7_code, 1, some (.int), 0, 3)
def mt_54 : MT := (⟨"TestEmitter$Builder", "buildObject", "(IILTestEmitter$Chars;)V"⟩, prog_2_method_9_code, 5, none, 3, 4)
def mt_55 : MT := (⟨"TestEmitter$Builder", "buildOutcome", "(LTestEmitter$Type;LTestEmitter$Chars;)V"⟩, prog_2_method_5_code, 3, none, 2, 4)
def mt_56 : MT := (⟨"TestEmitter$Type", "isSingle", "(I)Z"⟩, prog_7_method_8_code, 2, some (.boolean), 1, 3)
def mt_57 : MT := (⟨"TestEmitter$Data", "used", "()I"⟩, prog_4_method_4_code, 1, some (.int), 0, 5)
def mt_58 : MT := (⟨"TestEmitter", "writeAssertion", "()V"⟩, prog_1_method_17_code, 1, none, 0, 0)
def mt_59 : MT := (⟨"TestEmitter$Chars", "put", "(LTestEmitter$Chars;)V"⟩, prog_3_method_7_code, 2, none, 1, 1)
def mt_60 : MT := (⟨"TestEmitter$Chars", "put", "(LTestEmitter$Chars;II)V"⟩, prog_3_method_8_code, 5, none, 3, 1)
def mt_61 : MT := (⟨"TestEmitter", "keepBody", "(Z)I"⟩, prog_1_method_19_code, 2, some (.int), 1, 0)
def mt_62 : MT := (⟨"TestEmitter$Suite", "holds", "(LTestEmitter$Chars;)Z"⟩, prog_5_method_6_code, 3, some (.boolean), 1, 6)
def mt_63 : MT := (⟨"TestEmitter$Chars", "sameAs", "(LTestEmitter$Chars;)Z"⟩, prog_3_method_12_code, 3, some (.boolean), 1, 1)
def mt_64 : MT := (⟨"TestEmitter$Suite", "add", "(LTestEmitter$Chars;Z)I"⟩, prog_5_method_7_code, 3, some (.int), 2, 6)
def mt_65 : MT := (⟨"TestEmitter", "threw", "()I"⟩, prog_1_method_9_code, 3, some (.int), 0, 0)
def mt_66 : MT := (⟨"TestEmitter$Chars", "isName", "()Z"⟩, prog_3_method_13_code, 3, some (.boolean), 0, 1)
def mt_67 : MT := (⟨"TestEmitter", "writeCatch", "()V"⟩, prog_1_method_18_code, 1, none, 0, 0)
def mt_68 : MT := (⟨"TestEmitter", "taken", "()I"⟩, prog_1_method_10_code, 1, some (.int), 0, 0)
def mt_69 : MT := (⟨"TestEmitter", "drop", "()I"⟩, prog_1_method_11_code, 2, some (.int), 0, 0)
def mt_70 : MT := (⟨"TestEmitter$Suite", "size", "()I"⟩, prog_5_method_2_code, 1, some (.int), 0, 6)
def mt_71 : MT := (⟨"TestEmitter$Suite", "empty", "()V"⟩, prog_5_method_8_code, 1, none, 0, 6)
def mt_72 : MT := (⟨"TestEmitter", "emit", "()I"⟩, prog_1_method_12_code, 1, some (.int), 0, 0)
def mt_73 : MT := (⟨"TestEmitter$Text", "write", "(LTestEmitter$Suite;)V"⟩, prog_6_method_8_code, 3, none, 1, 7)
def mt_74 : MT := (⟨"TestEmitter$Text", "empty", "()V"⟩, prog_6_method_9_code, 1, none, 0, 7)
def mt_75 : MT := (⟨"TestEmitter$Text", "writeLine", "(Ljava/lang/String;)V"⟩, prog_6_method_13_code, 2, none, 1, 7)
def mt_76 : MT := (⟨"TestEmitter$Text", "endLine", "()V"⟩, prog_6_method_14_code, 2, none, 0, 7)
def mt_77 : MT := (⟨"TestEmitter$Suite", "bodyOf", "(I)LTestEmitter$Chars;"⟩, prog_5_method_5_code, 2, some (.object "TestEmitter$Chars"), 1, 6)
def mt_78 : MT := (⟨"TestEmitter$Text", "writeBody", "(LTestEmitter$Chars;)V"⟩, prog_6_method_10_code, 4, none, 1, 7)
def mt_79 : MT := (⟨"TestEmitter$Text", "writeBroken", "(LTestEmitter$Chars;II)V"⟩, prog_6_method_11_code, 8, none, 3, 7)
def mt_80 : MT := (⟨"TestEmitter$Text", "lastComma", "(LTestEmitter$Chars;III)I"⟩, prog_6_method_12_code, 8, some (.int), 4, 7)
def mt_81 : MT := (⟨"TestEmitter$Chars", "putBlanks", "(I)V"⟩, prog_3_method_9_code, 3, none, 1, 1)
def mt_82 : MT := (⟨"TestEmitter$Text", "length", "()I"⟩, prog_6_method_2_code, 1, some (.int), 0, 7)
def mt_83 : MT := (⟨"TestEmitter", "at", "(I)I"⟩, prog_1_method_13_code, 2, some (.int), 1, 0)
def mt_84 : MT := (⟨"TestEmitter$Text", "get", "(I)I"⟩, prog_6_method_6_code, 2, some (.int), 1, 7)
def mt_85 : MT := (⟨"TestEmitter", "line", "(I)I"⟩, prog_1_method_14_code, 2, some (.int), 1, 0)
def mt_86 : MT := (⟨"TestEmitter$Text", "startOf", "(I)I"⟩, prog_6_method_7_code, 2, some (.int), 1, 7)
def mt_87 : MT := (⟨"TestEmitter", "count", "(I)I"⟩, prog_1_method_15_code, 2, some (.int), 1, 0)
def mt_88 : MT := (⟨"TestEmitter$Text", "lines", "()I"⟩, prog_6_method_3_code, 1, some (.int), 0, 7)
def mt_89 : MT := (⟨"TestEmitter$Text", "longest", "()I"⟩, prog_6_method_4_code, 1, some (.int), 0, 7)
def mt_90 : MT := (⟨"TestEmitter$Text", "broken", "()I"⟩, prog_6_method_5_code, 1, some (.int), 0, 7)
def mt_91 : MT := (⟨"TestEmitter$Suite", "thrown", "()I"⟩, prog_5_method_3_code, 1, some (.int), 0, 6)
def mt_92 : MT := (⟨"TestEmitterLaw", "cell", "([II)I"⟩, method_2_code, 2, some (.int), 2, 99)
def mt_93 : MT := (⟨"TestEmitterModel", "<init>", "(I)V"⟩, prog_10_method_1_code, 2, none, 1, 8)
def mt_94 : MT := (⟨"TestEmitterModel", "type", "(I)I"⟩, prog_10_method_2_code, 2, some (.int), 1, 8)
def mt_95 : MT := (⟨"TestEmitterModel", "fields", "(I)I"⟩, prog_10_method_6_code, 2, some (.int), 1, 8)
def mt_96 : MT := (⟨"TestEmitterModel", "takeRow", "(I)I"⟩, prog_10_method_5_code, 6, some (.int), 1, 8)
def mt_97 : MT := (⟨"TestEmitterModel", "typeEnd", "(I)I"⟩, prog_10_method_4_code, 3, some (.int), 1, 8)
def mt_98 : MT := (⟨"TestEmitterModel", "plain", "(C)Z"⟩, prog_10_method_3_code, 2, some (.boolean), 1, 8)
def mt_99 : MT := (⟨"TestEmitterModel", "parameters", "()I"⟩, prog_10_method_7_code, 1, some (.int), 0, 8)
def mt_100 : MT := (⟨"TestEmitterModel", "result", "()I"⟩, prog_10_method_8_code, 5, some (.int), 0, 8)
def mt_101 : MT := (⟨"TestEmitterModel", "data", "(I)I"⟩, prog_10_method_9_code, 2, some (.int), 1, 8)
def mt_102 : MT := (⟨"TestEmitterModel", "clear", "()I"⟩, prog_10_method_10_code, 2, some (.int), 0, 8)
def mt_103 : MT := (⟨"TestEmitterModel", "returned", "()I"⟩, prog_10_method_36_code, 5, some (.int), 0, 8)
def mt_104 : MT := (⟨"TestEmitterModel", "call", "()V"⟩, prog_10_method_31_code, 1, none, 0, 8)
def mt_105 : MT := (⟨"TestEmitterModel", "word", "(J)V"⟩, prog_10_method_13_code, 4, none, 1, 8)
def mt_106 : MT := (⟨"TestEmitterModel", "put", "(I)V"⟩, prog_10_method_12_code, 2, none, 1, 8)
def mt_107 : MT := (⟨"TestEmitterModel", "planRow", "(I)V"⟩, prog_10_method_24_code, 8, none, 1, 8)
def mt_108 : MT := (⟨"TestEmitterModel", "plan", "(I)V"⟩, prog_10_method_25_code, 2, none, 1, 8)
def mt_109 : MT := (⟨"TestEmitterModel", "writeList", "()V"⟩, prog_10_method_29_code, 2, none, 0, 8)
def mt_110 : MT := (⟨"TestEmitterModel", "value", "(IZ)V"⟩, prog_10_method_28_code, 4, none, 2, 8)
def mt_111 : MT := (⟨"TestEmitterModel", "array", "(IZ)V"⟩, prog_10_method_26_code, 5, none, 2, 8)
def mt_112 : MT := (⟨"TestEmitterModel", "next", "()I"⟩, prog_10_method_11_code, 1, some (.int), 0, 8)
def mt_113 : MT := (⟨"TestEmitterModel", "nothing", "()V"⟩, prog_10_method_22_code, 1, none, 0, 8)
def mt_114 : MT := (⟨"TestEmitterModel", "arrayName", "(I)V"⟩, prog_10_method_23_code, 5, none, 1, 8)
def mt_115 : MT := (⟨"TestEmitterModel", "object", "(I)V"⟩, prog_10_method_27_code, 3, none, 1, 8)
def mt_116 : MT := (⟨"TestEmitterModel", "wide", "()V"⟩, prog_10_method_20_code, 4, none, 0, 8)
def mt_117 : MT := (⟨"TestEmitterModel", "least", "(J)V"⟩, prog_10_method_15_code, 3, none, 1, 8)
def mt_118 : MT := (⟨"TestEmitterModel", "number", "(J)V"⟩, prog_10_method_14_code, 7, none, 1, 8)
def mt_119 : MT := (⟨"TestEmitterModel", "narrow", "(J)J"⟩, prog_10_method_17_code, 11, some (.long), 1, 8)
def mt_120 : MT := (⟨"TestEmitterModel", "pointed", "(J)V"⟩, prog_10_method_18_code, 6, none, 1, 8)
def mt_121 : MT := (⟨"TestEmitterModel", "texts", "()V"⟩, prog_10_method_21_code, 3, none, 0, 8)
def mt_122 : MT := (⟨"TestEmitterModel", "character", "(II)V"⟩, prog_10_method_16_code, 5, none, 2, 8)
def mt_123 : MT := (⟨"TestEmitterModel", "whole", "(C)V"⟩, prog_10_method_19_code, 3, none, 1, 8)
def mt_124 : MT := (⟨"TestEmitterModel", "assertion", "(J)V"⟩, prog_10_method_32_code, 3, none, 1, 8)
def mt_125 : MT := (⟨"TestEmitterModel", "copyPart", "(I)V"⟩, prog_10_method_30_code, 3, none, 1, 8)
def mt_126 : MT := (⟨"TestEmitterModel", "add", "(Z)I"⟩, prog_10_method_33_code, 4, some (.int), 1, 8)
def mt_127 : MT := (⟨"TestEmitterModel", "sameBody", "(II)Z"⟩, prog_10_method_35_code, 4, some (.boolean), 2, 8)
def mt_128 : MT := (⟨"TestEmitterModel", "bodyAt", "(II)I"⟩, prog_10_method_34_code, 3, some (.int), 2, 8)
def mt_129 : MT := (⟨"TestEmitterModel", "threw", "()I"⟩, prog_10_method_39_code, 3, some (.int), 0, 8)
def mt_130 : MT := (⟨"TestEmitterModel", "letters", "()Z"⟩, prog_10_method_37_code, 2, some (.boolean), 0, 8)
def mt_131 : MT := (⟨"TestEmitterModel", "name", "(I)V"⟩, prog_10_method_38_code, 3, none, 1, 8)
def mt_132 : MT := (⟨"TestEmitterModel", "taken", "()I"⟩, prog_10_method_40_code, 1, some (.int), 0, 8)
def mt_133 : MT := (⟨"TestEmitterModel", "drop", "()I"⟩, prog_10_method_41_code, 2, some (.int), 0, 8)
def mt_134 : MT := (⟨"TestEmitterModel", "emit", "()I"⟩, prog_10_method_52_code, 3, some (.int), 0, 8)
def mt_135 : MT := (⟨"TestEmitterModel", "outWord", "(J)V"⟩, prog_10_method_45_code, 4, none, 1, 8)
def mt_136 : MT := (⟨"TestEmitterModel", "out", "(I)V"⟩, prog_10_method_44_code, 2, none, 1, 8)
def mt_137 : MT := (⟨"TestEmitterModel", "setText", "(II)V"⟩, prog_10_method_43_code, 3, none, 2, 8)
def mt_138 : MT := (⟨"TestEmitterModel", "endLine", "(I)V"⟩, prog_10_method_47_code, 2, none, 1, 8)
def mt_139 : MT := (⟨"TestEmitterModel", "blanks", "(I)V"⟩, prog_10_method_46_code, 3, none, 1, 8)
def mt_140 : MT := (⟨"TestEmitterModel", "outNumber", "(I)V"⟩, prog_10_method_51_code, 2, none, 1, 8)
def mt_141 : MT := (⟨"TestEmitterModel", "outBody", "(I)V"⟩, prog_10_method_50_code, 5, none, 1, 8)
def mt_142 : MT := (⟨"TestEmitterModel", "endBroken", "(I)V"⟩, prog_10_method_49_code, 10, none, 1, 8)
def mt_143 : MT := (⟨"TestEmitterModel", "textAt", "(I)I"⟩, prog_10_method_42_code, 2, some (.int), 1, 8)
def mt_144 : MT := (⟨"TestEmitterModel", "comma", "(II)I"⟩, prog_10_method_48_code, 7, some (.int), 2, 8)
def mt_145 : MT := (⟨"TestEmitterModel", "at", "(I)I"⟩, prog_10_method_53_code, 2, some (.int), 1, 8)
def mt_146 : MT := (⟨"TestEmitterModel", "line", "(I)I"⟩, prog_10_method_54_code, 4, some (.int), 1, 8)
def mt_147 : MT := (⟨"TestEmitterModel", "count", "(I)I"⟩, prog_10_method_55_code, 4, some (.int), 1, 8)
def mt_148 : MT := (⟨"java/lang/String", "length", "()I"⟩, prog_13_method_54_code, 1, some (.int), 0, 9)
def mt_149 : MT := (⟨"java/lang/String", "coder", "()B"⟩, prog_13_method_152_code, 1, some (.byte), 0, 9)
def mt_150 : MT := (⟨"java/lang/String", "charAt", "(I)C"⟩, prog_13_method_56_code, 2, some (.char), 1, 9)
def mt_151 : MT := (⟨"java/lang/String", "isLatin1", "()Z"⟩, prog_13_method_154_code, 1, some (.boolean), 0, 9)
def mt_152 : MT := (⟨"java/lang/String", "indexOf", "(I)I"⟩, prog_13_method_79_code, 2, some (.int), 1, 9)
def mt_153 : MT := (⟨"java/lang/String", "indexOf", "(II)I"⟩, prog_13_method_80_code, 3, some (.int), 2, 9)
def mt_154 : MT := (⟨"java/lang/String", "checkIndex", "(II)V"⟩, prog_13_method_155_code, 2, none, 2, 9)
def mt_155 : MT := (⟨"java/lang/StringLatin1", "charAt", "([BI)C"⟩, prog_14_method_2_code, 2, some (.char), 2, 99)
def mt_156 : MT := (⟨"java/lang/StringLatin1", "indexOf", "([BIII)I"⟩, prog_14_method_22_code, 4, some (.int), 4, 99)
def mt_157 : MT := (⟨"java/lang/StringLatin1", "canEncode", "(I)Z"⟩, prog_14_method_4_code, 1, some (.boolean), 1, 99)
def mt_158 : MT := (⟨"java/lang/StringLatin1", "indexOfChar", "([BIII)I"⟩, prog_14_method_23_code, 6, some (.int), 4, 99)
def mt_159 : MT := (⟨"jdk/internal/util/Preconditions", "checkIndex", "(IILjava/util/function/BiFunction;)I"⟩, prog_17_method_11_code, 3, some (.int), 3, 99)
def mtl : List MT := [mt_0, mt_1, mt_2, mt_3, mt_4, mt_5, mt_6, mt_7, mt_8, mt_9, mt_10, mt_11, mt_12, mt_13, mt_14, mt_15, mt_16, mt_17, mt_18, mt_19, mt_20, mt_21, mt_22, mt_23, mt_24, mt_25, mt_26, mt_27, mt_28, mt_29, mt_30, mt_31, mt_32, mt_33, mt_34, mt_35, mt_36, mt_37, mt_38, mt_39, mt_40, mt_41, mt_42, mt_43, mt_44, mt_45, mt_46, mt_47, mt_48, mt_49, mt_50, mt_51, mt_52, mt_53, mt_54, mt_55, mt_56, mt_57, mt_58, mt_59, mt_60, mt_61, mt_62, mt_63, mt_64, mt_65, mt_66, mt_67, mt_68, mt_69, mt_70, mt_71, mt_72, mt_73, mt_74, mt_75, mt_76, mt_77, mt_78, mt_79, mt_80, mt_81, mt_82, mt_83, mt_84, mt_85, mt_86, mt_87, mt_88, mt_89, mt_90, mt_91, mt_92, mt_93, mt_94, mt_95, mt_96, mt_97, mt_98, mt_99, mt_100, mt_101, mt_102, mt_103, mt_104, mt_105, mt_106, mt_107, mt_108, mt_109, mt_110, mt_111, mt_112, mt_113, mt_114, mt_115, mt_116, mt_117, mt_118, mt_119, mt_120, mt_121, mt_122, mt_123, mt_124, mt_125, mt_126, mt_127, mt_128, mt_129, mt_130, mt_131, mt_132, mt_133, mt_134, mt_135, mt_136, mt_137, mt_138, mt_139, mt_140, mt_141, mt_142, mt_143, mt_144, mt_145, mt_146, mt_147, mt_148, mt_149, mt_150, mt_151, mt_152, mt_153, mt_154, mt_155, mt_156, mt_157, mt_158, mt_159]
def mt (i : Nat) : MT := mtl.getD i mt_0
def mN (i : Nat) : MethodName := (mt i).1
def mB (i : Nat) : ByteArray := (mt i).2.1
def mL (i : Nat) : Nat := (mt i).2.2.1
def mR (i : Nat) : Option FieldType := (mt i).2.2.2.1
def mA (i : Nat) : Nat := (mt i).2.2.2.2.1
def mC (i : Nat) : Nat := (mt i).2.2.2.2.2
def kL : Nat := 41
def sN : Nat := 99
def sBl : List (List Int32) := [[90, 66, 67, 83, 73, 74, 70, 68, 84],
  [86],
  [84, 97, 114, 103, 101, 116, 46, 114, 117, 110, 40],
  [44, 32],
  [110, 117, 108, 108],
  [110, 101, 119, 32],
  [98, 111, 111, 108, 101, 97, 110],
  [98, 121, 116, 101],
  [99, 104, 97, 114],
  [115, 104, 111, 114, 116],
  [105, 110, 116],
  [108, 111, 110, 103],
  [102, 108, 111, 97, 116],
  [100, 111, 117, 98, 108, 101],
  [83, 116, 114, 105, 110, 103],
  [67],
  [91, 93],
  [116, 114, 117, 101],
  [102, 97, 108, 115, 101],
  [40, 98, 121, 116, 101, 41, 32],
  [40, 115, 104, 111, 114, 116, 41, 32],
  [92, 110],
  [92, 116],
  [92, 114],
  [92, 117],
  [48, 49, 50, 51, 52, 53, 54, 55, 56, 57, 65, 66, 67, 68, 69, 70],
  [73, 110, 116, 101, 103, 101, 114, 46, 77, 73, 78, 95, 86, 65, 76, 85, 69],
  [76, 111, 110, 103, 46, 77, 73, 78, 95, 86, 65, 76, 85, 69],
  [110, 101, 119, 32, 67],
  [59, 10],
  [97, 115, 115, 101, 114, 116, 84, 114, 117, 101, 40],
  [97, 115, 115, 101, 114, 116, 70, 97, 108, 115, 101, 40],
  [97, 115, 115, 101, 114, 116, 78, 117, 108, 108, 40],
  [97, 115, 115, 101, 114, 116, 65, 114, 114, 97, 121, 69, 113, 117, 97, 108, 115, 40],
  [97, 115, 115, 101, 114, 116, 69, 113, 117, 97, 108, 115, 40],
  [44, 32, 48, 46, 48, 102],
  [44, 32, 48, 46, 48],
  [],
  [41, 59, 10],
  [116, 114, 121, 32, 123, 10, 32, 32, 32, 32],
  [59, 10, 32, 32, 32, 32, 102, 97, 105, 108, 40, 34],
  [34, 41, 59, 10, 125, 32, 99, 97, 116, 99, 104, 32, 40],
  [32, 101, 41, 32, 123, 10, 125, 10],
  [112, 117, 98, 108, 105, 99, 32, 99, 108, 97, 115, 115, 32, 84, 97, 114, 103, 101, 116, 84, 101, 115, 116, 32, 123],
  [32, 32, 32, 32, 64, 84, 101, 115, 116],
  [32, 32, 32, 32, 112, 117, 98, 108, 105, 99, 32, 118, 111, 105, 100, 32, 116, 101, 115, 116],
  [40, 41, 32, 123],
  [32, 32, 32, 32, 125],
  [125]]
def sS : Nat := 49
def sK : Nat × List Int32 → List ((FieldType ⊕ Nat) × List Value) := fun q => [(.inr 9, [.ref (2 * q.1 + 1), .int 0]), (.inl .byte, q.2.map Value.int)]
def sH : List ((FieldType ⊕ Nat) × List Value) := (sBl.zipIdx.flatMap fun q => sK (q.2, q.1))
def sKl : List ((String × Nat) × Nat) := [(("TestEmitter$Type", 34), 0),
  (("TestEmitter$Type", 41), 2),
  (("TestEmitter$Builder", 33), 4),
  (("TestEmitter$Builder", 171), 6),
  (("TestEmitter$Builder", 124), 8),
  (("TestEmitter$Builder", 126), 10),
  (("TestEmitter$Type", 67), 12),
  (("TestEmitter$Type", 69), 14),
  (("TestEmitter$Type", 71), 16),
  (("TestEmitter$Type", 73), 18),
  (("TestEmitter$Type", 75), 20),
  (("TestEmitter$Type", 77), 22),
  (("TestEmitter$Type", 79), 24),
  (("TestEmitter$Type", 81), 26),
  (("TestEmitter$Type", 83), 28),
  (("TestEmitter$Type", 85), 30),
  (("TestEmitter$Type", 65), 32),
  (("TestEmitter$Builder", 87), 34),
  (("TestEmitter$Builder", 89), 36),
  (("TestEmitter$Builder", 91), 38),
  (("TestEmitter$Builder", 97), 40),
  (("TestEmitter$Builder", 155), 42),
  (("TestEmitter$Builder", 157), 44),
  (("TestEmitter$Builder", 159), 46),
  (("TestEmitter$Builder", 161), 48),
  (("TestEmitter$Builder", 163), 50),
  (("TestEmitter$Builder", 144), 52),
  (("TestEmitter$Builder", 139), 54),
  (("TestEmitter$Builder", 131), 56),
  (("TestEmitter", 178), 58),
  (("TestEmitter", 183), 34),
  (("TestEmitter", 189), 60),
  (("TestEmitter", 191), 62),
  (("TestEmitter", 193), 8),
  (("TestEmitter", 195), 64),
  (("TestEmitter", 200), 66),
  (("TestEmitter", 202), 68),
  (("TestEmitter", 204), 6),
  (("TestEmitter", 206), 70),
  (("TestEmitter", 208), 72),
  (("TestEmitter", 210), 74),
  (("TestEmitter", 212), 76),
  (("TestEmitter", 214), 78),
  (("TestEmitter", 216), 80),
  (("TestEmitter", 218), 82),
  (("TestEmitter", 220), 84),
  (("TestEmitter$Text", 48), 86),
  (("TestEmitter$Text", 62), 88),
  (("TestEmitter$Text", 64), 90),
  (("TestEmitter$Text", 73), 92),
  (("TestEmitter$Text", 83), 94),
  (("TestEmitter$Text", 85), 96)]
def zl : List (String × String × String × Int32) := [("java/lang/String", "COMPACT_STRINGS", "Z", 1)]
def zt (k : Nat) : String × String × String × Int32 := zl.getD k ("", "", "", 0)
def zC (k : Nat) : String := (zt k).1
def zN (k : Nat) : String := (zt k).2.1
def zD (k : Nat) : String := (zt k).2.2.1
def zV (k : Nat) : Int32 := (zt k).2.2.2
def zNn : Nat := 1
def oC : String := "jdk/internal/util/Preconditions"
def oN : String := "SIOOBE_FORMATTER"
def oD : String := "Ljava/util/function/BiFunction;"
def sp_0 : List (Nat × Nat × Instr × Instr) := [(3, 1, .dup, .dup),
  (4, 1, .aload_n 0, .aload 0),
  (5, 1, .iconst 0, .iconst 0),
  (12, 1, .astore_n 1, .astore 1),
  (16, 1, .dup, .dup),
  (17, 1, .aload_n 0, .aload 0),
  (18, 1, .iconst 0, .iconst 0),
  (25, 1, .astore_n 2, .astore 2),
  (26, 1, .iconst 1, .iconst 1),
  (27, 1, .istore_n 3, .istore 3),
  (28, 1, .iload_n 3, .iload 3),
  (29, 1, .aload_n 0, .aload 0),
  (30, 1, .arraylength, .arraylength),
  (31, 1, .iconst 2, .iconst 2),
  (32, 1, .isub, .isub),
  (33, 3, .if_icmp .gt 327, .if_icmp .gt 360),
  (36, 1, .aload_n 0, .aload 0),
  (37, 1, .iload_n 3, .iload 3),
  (38, 1, .iaload, .iaload),
  (39, 2, .bipush 15, .iconst 15),
  (41, 1, .iand, .iand),
  (42, 70, .tableswitch 312 0 13 #[70, 93, 116, 129, 142, 165, 178, 191, 204, 217, 230, 243, 266, 289], .lookupswitch 354 #[(0, 112), (1, 135), (2, 158), (3, 171), (4, 184), (5, 207), (6, 220), (7, 233), (8, 246), (9, 259), (10, 272), (11, 285), (12, 308), (13, 331)]),
  (112, 1, .aload_n 1, .aload 1),
  (113, 1, .aload_n 0, .aload 0),
  (114, 1, .iload_n 3, .iload 3),
  (115, 1, .iconst 1, .iconst 1),
  (116, 1, .iadd, .iadd),
  (117, 1, .iaload, .iaload),
  (121, 1, .aload_n 2, .aload 2),
  (122, 1, .aload_n 0, .aload 0),
  (123, 1, .iload_n 3, .iload 3),
  (124, 1, .iconst 1, .iconst 1),
  (125, 1, .iadd, .iadd),
  (126, 1, .iaload, .iaload),
  (130, 3, .if_icmp .eq 224, .if_icmp .eq 354),
  (133, 1, .iconst 0, .iconst 0),
  (134, 1, .ireturn, .ireturn),
  (135, 1, .aload_n 1, .aload 1),
  (136, 1, .aload_n 0, .aload 0),
  (137, 1, .iload_n 3, .iload 3),
  (138, 1, .iconst 1, .iconst 1),
  (139, 1, .iadd, .iadd),
  (140, 1, .iaload, .iaload),
  (144, 1, .aload_n 2, .aload 2),
  (145, 1, .aload_n 0, .aload 0),
  (146, 1, .iload_n 3, .iload 3),
  (147, 1, .iconst 1, .iconst 1),
  (148, 1, .iadd, .iadd),
  (149, 1, .iaload, .iaload),
  (153, 3, .if_icmp .eq 201, .if_icmp .eq 354),
  (156, 1, .iconst 0, .iconst 0),
  (157, 1, .ireturn, .ireturn),
  (158, 1, .aload_n 1, .aload 1),
  (162, 1, .aload_n 2, .aload 2),
  (166, 3, .if_icmp .eq 188, .if_icmp .eq 354),
  (169, 1, .iconst 0, .iconst 0),
  (170, 1, .ireturn, .ireturn),
  (171, 1, .aload_n 1, .aload 1),
  (175, 1, .aload_n 2, .aload 2),
  (179, 3, .if_icmp .eq 175, .if_icmp .eq 354),
  (182, 1, .iconst 0, .iconst 0),
  (183, 1, .ireturn, .ireturn),
  (184, 1, .aload_n 1, .aload 1),
  (185, 1, .aload_n 0, .aload 0),
  (186, 1, .iload_n 3, .iload 3),
  (187, 1, .iconst 1, .iconst 1),
  (188, 1, .iadd, .iadd),
  (189, 1, .iaload, .iaload),
  (193, 1, .aload_n 2, .aload 2),
  (194, 1, .aload_n 0, .aload 0),
  (195, 1, .iload_n 3, .iload 3),
  (196, 1, .iconst 1, .iconst 1),
  (197, 1, .iadd, .iadd),
  (198, 1, .iaload, .iaload),
  (202, 3, .if_icmp .eq 152, .if_icmp .eq 354),
  (205, 1, .iconst 0, .iconst 0),
  (206, 1, .ireturn, .ireturn),
  (207, 1, .aload_n 1, .aload 1),
  (211, 1, .aload_n 2, .aload 2),
  (215, 3, .if_icmp .eq 139, .if_icmp .eq 354),
  (218, 1, .iconst 0, .iconst 0),
  (219, 1, .ireturn, .ireturn),
  (220, 1, .aload_n 1, .aload 1),
  (224, 1, .aload_n 2, .aload 2),
  (228, 3, .if_icmp .eq 126, .if_icmp .eq 354),
  (231, 1, .iconst 0, .iconst 0),
  (232, 1, .ireturn, .ireturn),
  (233, 1, .aload_n 1, .aload 1),
  (237, 1, .aload_n 2, .aload 2),
  (241, 3, .if_icmp .eq 113, .if_icmp .eq 354),
  (244, 1, .iconst 0, .iconst 0),
  (245, 1, .ireturn, .ireturn),
  (246, 1, .aload_n 1, .aload 1),
  (250, 1, .aload_n 2, .aload 2),
  (254, 3, .if_icmp .eq 100, .if_icmp .eq 354),
  (257, 1, .iconst 0, .iconst 0),
  (258, 1, .ireturn, .ireturn),
  (259, 1, .aload_n 1, .aload 1),
  (263, 1, .aload_n 2, .aload 2),
  (267, 3, .if_icmp .eq 87, .if_icmp .eq 354),
  (270, 1, .iconst 0, .iconst 0),
  (271, 1, .ireturn, .ireturn),
  (272, 1, .aload_n 1, .aload 1),
  (276, 1, .aload_n 2, .aload 2),
  (280, 3, .if_icmp .eq 74, .if_icmp .eq 354),
  (283, 1, .iconst 0, .iconst 0),
  (284, 1, .ireturn, .ireturn),
  (285, 1, .aload_n 1, .aload 1),
  (286, 1, .aload_n 0, .aload 0),
  (287, 1, .iload_n 3, .iload 3),
  (288, 1, .iconst 1, .iconst 1),
  (289, 1, .iadd, .iadd),
  (290, 1, .iaload, .iaload),
  (294, 1, .aload_n 2, .aload 2),
  (295, 1, .aload_n 0, .aload 0),
  (296, 1, .iload_n 3, .iload 3),
  (297, 1, .iconst 1, .iconst 1),
  (298, 1, .iadd, .iadd),
  (299, 1, .iaload, .iaload),
  (303, 3, .if_icmp .eq 51, .if_icmp .eq 354),
  (306, 1, .iconst 0, .iconst 0),
  (307, 1, .ireturn, .ireturn),
  (308, 1, .aload_n 1, .aload 1),
  (309, 1, .aload_n 0, .aload 0),
  (310, 1, .iload_n 3, .iload 3),
  (311, 1, .iconst 1, .iconst 1),
  (312, 1, .iadd, .iadd),
  (313, 1, .iaload, .iaload),
  (317, 1, .aload_n 2, .aload 2),
  (318, 1, .aload_n 0, .aload 0),
  (319, 1, .iload_n 3, .iload 3),
  (320, 1, .iconst 1, .iconst 1),
  (321, 1, .iadd, .iadd),
  (322, 1, .iaload, .iaload),
  (326, 3, .if_icmp .eq 28, .if_icmp .eq 354),
  (329, 1, .iconst 0, .iconst 0),
  (330, 1, .ireturn, .ireturn),
  (331, 1, .aload_n 1, .aload 1),
  (332, 1, .aload_n 0, .aload 0),
  (333, 1, .iload_n 3, .iload 3),
  (334, 1, .iconst 1, .iconst 1),
  (335, 1, .iadd, .iadd),
  (336, 1, .iaload, .iaload),
  (340, 1, .aload_n 2, .aload 2),
  (341, 1, .aload_n 0, .aload 0),
  (342, 1, .iload_n 3, .iload 3),
  (343, 1, .iconst 1, .iconst 1),
  (344, 1, .iadd, .iadd),
  (345, 1, .iaload, .iaload),
  (349, 3, .if_icmp .eq 5, .if_icmp .eq 354),
  (352, 1, .iconst 0, .iconst 0),
  (353, 1, .ireturn, .ireturn),
  (354, 3, .iinc 3 2, .iinc 3 2),
  (357, 3, .goto (-329), .goto 28),
  (360, 1, .iconst 1, .iconst 1),
  (361, 1, .ireturn, .ireturn)]
def lk_0 : List (Nat × Nat × Instr × Instr) := [(0, 3, .new 7, .new 0),
  (6, 3, .invokestatic 9, .invokestatic 92),
  (9, 3, .invokespecial 15, .invokespecial 1),
  (13, 3, .new 18, .new 8),
  (19, 3, .invokestatic 9, .invokestatic 92),
  (22, 3, .invokespecial 20, .invokespecial 93),
  (118, 3, .invokevirtual 21, .invokevirtual 9),
  (127, 3, .invokevirtual 25, .invokevirtual 94),
  (141, 3, .invokevirtual 26, .invokevirtual 12),
  (150, 3, .invokevirtual 29, .invokevirtual 95),
  (159, 3, .invokevirtual 30, .invokevirtual 21),
  (163, 3, .invokevirtual 34, .invokevirtual 99),
  (172, 3, .invokevirtual 35, .invokevirtual 22),
  (176, 3, .invokevirtual 38, .invokevirtual 100),
  (190, 3, .invokevirtual 39, .invokevirtual 25),
  (199, 3, .invokevirtual 42, .invokevirtual 101),
  (208, 3, .invokevirtual 43, .invokevirtual 29),
  (212, 3, .invokevirtual 46, .invokevirtual 102),
  (221, 3, .invokevirtual 47, .invokevirtual 31),
  (225, 3, .invokevirtual 50, .invokevirtual 103),
  (234, 3, .invokevirtual 51, .invokevirtual 65),
  (238, 3, .invokevirtual 54, .invokevirtual 129),
  (247, 3, .invokevirtual 55, .invokevirtual 68),
  (251, 3, .invokevirtual 58, .invokevirtual 132),
  (260, 3, .invokevirtual 59, .invokevirtual 69),
  (264, 3, .invokevirtual 62, .invokevirtual 133),
  (273, 3, .invokevirtual 63, .invokevirtual 72),
  (277, 3, .invokevirtual 66, .invokevirtual 134),
  (291, 3, .invokevirtual 67, .invokevirtual 83),
  (300, 3, .invokevirtual 70, .invokevirtual 145),
  (314, 3, .invokevirtual 71, .invokevirtual 85),
  (323, 3, .invokevirtual 74, .invokevirtual 146),
  (337, 3, .invokevirtual 75, .invokevirtual 87),
  (346, 3, .invokevirtual 78, .invokevirtual 147)]
def cd_0 : List (Nat × Nat × Instr × Instr) := sp_0 ++ lk_0
def sp_1 : List (Nat × Nat × Instr × Instr) := [(0, 1, .aload_n 0, .aload 0),
  (4, 1, .aload_n 0, .aload 0),
  (8, 1, .dup, .dup),
  (9, 2, .bipush 40, .iconst 40),
  (17, 1, .aload_n 0, .aload 0),
  (21, 1, .dup, .dup),
  (28, 1, .aload_n 0, .aload 0),
  (32, 1, .dup, .dup),
  (33, 1, .iconst 0, .iconst 0),
  (34, 2, .bipush 86, .iconst 86),
  (36, 1, .iconst 0, .iconst 0),
  (43, 1, .aload_n 0, .aload 0),
  (47, 1, .dup, .dup),
  (54, 1, .aload_n 0, .aload 0),
  (58, 1, .dup, .dup),
  (59, 3, .sipush 300, .iconst 300),
  (68, 1, .aload_n 0, .aload 0),
  (72, 1, .dup, .dup),
  (73, 3, .sipush 300, .iconst 300),
  (82, 1, .aload_n 0, .aload 0),
  (86, 1, .dup, .dup),
  (87, 3, .sipush 300, .iconst 300),
  (96, 1, .aload_n 0, .aload 0),
  (100, 1, .dup, .dup),
  (107, 1, .aload_n 0, .aload 0),
  (108, 1, .iconst (-1), .iconst (-1)),
  (112, 1, .aload_n 0, .aload 0),
  (116, 1, .dup, .dup),
  (117, 2, .bipush 40, .iconst 40),
  (119, 2, .bipush 120, .iconst 120),
  (121, 1, .iload_n 1, .iload 1),
  (134, 1, .return_, .return_)]
def lk_1 : List (Nat × Nat × Instr × Instr) := [(1, 3, .invokespecial 1, .monitorenter),
  (5, 3, .new 7, .new 1),
  (11, 3, .invokespecial 11, .invokespecial 2),
  (14, 3, .putfield 14, .putfield 0),
  (18, 3, .new 18, .new 2),
  (22, 3, .invokespecial 20, .invokespecial 3),
  (25, 3, .putfield 21, .putfield 1),
  (29, 3, .new 25, .new 3),
  (37, 3, .invokespecial 27, .invokespecial 4),
  (40, 3, .putfield 30, .putfield 2),
  (44, 3, .new 34, .new 4),
  (48, 3, .invokespecial 36, .invokespecial 5),
  (51, 3, .putfield 37, .putfield 3),
  (55, 3, .new 7, .new 1),
  (62, 3, .invokespecial 11, .invokespecial 2),
  (65, 3, .putfield 41, .putfield 4),
  (69, 3, .new 7, .new 1),
  (76, 3, .invokespecial 11, .invokespecial 2),
  (79, 3, .putfield 44, .putfield 5),
  (83, 3, .new 7, .new 1),
  (90, 3, .invokespecial 11, .invokespecial 2),
  (93, 3, .putfield 47, .putfield 6),
  (97, 3, .new 50, .new 6),
  (101, 3, .invokespecial 52, .invokespecial 7),
  (104, 3, .putfield 53, .putfield 7),
  (109, 3, .putfield 57, .putfield 9),
  (113, 3, .new 61, .new 7),
  (122, 3, .invokestatic 63, .dsub),
  (125, 3, .invokestatic 69, .dadd),
  (128, 3, .invokespecial 72, .invokespecial 8),
  (131, 3, .putfield 73, .putfield 8)]
def cd_1 : List (Nat × Nat × Instr × Instr) := sp_1 ++ lk_1
def sp_2 : List (Nat × Nat × Instr × Instr) := [(0, 1, .aload_n 0, .aload 0),
  (4, 1, .aload_n 0, .aload 0),
  (5, 1, .iload_n 1, .iload 1),
  (11, 1, .return_, .return_)]
def lk_2 : List (Nat × Nat × Instr × Instr) := [(1, 3, .invokespecial 3, .monitorenter),
  (6, 2, .newarray .char, .newarray .char),
  (8, 3, .putfield 9, .putfield 32)]
def cd_2 : List (Nat × Nat × Instr × Instr) := sp_2 ++ lk_2
def sp_3 : List (Nat × Nat × Instr × Instr) := [(0, 1, .aload_n 0, .aload 0),
  (4, 1, .aload_n 0, .aload 0),
  (5, 1, .iconst 4, .iconst 4),
  (12, 1, .return_, .return_)]
def lk_3 : List (Nat × Nat × Instr × Instr) := [(1, 3, .invokespecial 3, .monitorenter),
  (6, 3, .anewarray 9, .anewarray 3),
  (9, 3, .putfield 11, .putfield 64)]
def cd_3 : List (Nat × Nat × Instr × Instr) := sp_3 ++ lk_3
def sp_4 : List (Nat × Nat × Instr × Instr) := [(0, 1, .aload_n 0, .aload 0),
  (4, 1, .aload_n 0, .aload 0),
  (5, 1, .iload_n 1, .iload 1),
  (9, 1, .aload_n 0, .aload 0),
  (10, 1, .iload_n 2, .iload 2),
  (14, 1, .aload_n 0, .aload 0),
  (15, 1, .iload_n 3, .iload 3),
  (19, 1, .return_, .return_)]
def lk_4 : List (Nat × Nat × Instr × Instr) := [(1, 3, .invokespecial 3, .monitorenter),
  (6, 3, .putfield 9, .putfield 96),
  (11, 3, .putfield 15, .putfield 97),
  (16, 3, .putfield 18, .putfield 98)]
def cd_4 : List (Nat × Nat × Instr × Instr) := sp_4 ++ lk_4
def sp_5 : List (Nat × Nat × Instr × Instr) := [(0, 1, .aload_n 0, .aload 0),
  (4, 1, .aload_n 0, .aload 0),
  (8, 1, .dup, .dup),
  (15, 1, .aload_n 0, .aload 0),
  (16, 1, .iconst 4, .iconst 4),
  (23, 1, .iconst 0, .iconst 0),
  (24, 1, .istore_n 1, .istore 1),
  (25, 1, .iload_n 1, .iload 1),
  (26, 1, .iconst 4, .iconst 4),
  (27, 3, .if_icmp .ge 22, .if_icmp .ge 49),
  (30, 1, .aload_n 0, .aload 0),
  (34, 1, .iload_n 1, .iload 1),
  (38, 1, .dup, .dup),
  (42, 1, .aastore, .aastore),
  (43, 3, .iinc 1 1, .iinc 1 1),
  (46, 3, .goto (-21), .goto 25),
  (49, 1, .return_, .return_)]
def lk_5 : List (Nat × Nat × Instr × Instr) := [(1, 3, .invokespecial 3, .monitorenter),
  (5, 3, .new 9, .new 5),
  (9, 3, .invokespecial 11, .invokespecial 6),
  (12, 3, .putfield 12, .putfield 128),
  (17, 3, .anewarray 18, .anewarray 2),
  (20, 3, .putfield 20, .putfield 129),
  (31, 3, .getfield 20, .getfield 129),
  (35, 3, .new 18, .new 2),
  (39, 3, .invokespecial 24, .invokespecial 3)]
def cd_5 : List (Nat × Nat × Instr × Instr) := sp_5 ++ lk_5
def sp_6 : List (Nat × Nat × Instr × Instr) := [(0, 1, .aload_n 0, .aload 0),
  (4, 1, .aload_n 0, .aload 0),
  (5, 2, .bipush 60, .iconst 60),
  (12, 1, .return_, .return_)]
def lk_6 : List (Nat × Nat × Instr × Instr) := [(1, 3, .invokespecial 3, .monitorenter),
  (7, 2, .newarray .int, .newarray .int),
  (9, 3, .putfield 9, .putfield 160)]
def cd_6 : List (Nat × Nat × Instr × Instr) := sp_6 ++ lk_6
def sp_7 : List (Nat × Nat × Instr × Instr) := [(0, 1, .aload_n 0, .aload 0),
  (4, 1, .aload_n 0, .aload 0),
  (5, 2, .bipush 20, .iconst 20),
  (13, 1, .return_, .return_)]
def lk_7 : List (Nat × Nat × Instr × Instr) := [(1, 3, .invokespecial 3, .monitorenter),
  (7, 3, .anewarray 9, .anewarray 1),
  (10, 3, .putfield 11, .putfield 192)]
def cd_7 : List (Nat × Nat × Instr × Instr) := sp_7 ++ lk_7
def sp_8 : List (Nat × Nat × Instr × Instr) := [(0, 1, .aload_n 0, .aload 0),
  (4, 1, .aload_n 0, .aload 0),
  (8, 1, .dup, .dup),
  (9, 3, .sipush 1024, .iconst 1024),
  (18, 1, .aload_n 0, .aload 0),
  (19, 2, .bipush 64, .iconst 64),
  (26, 1, .aload_n 0, .aload 0),
  (27, 1, .iload_n 1, .iload 1),
  (31, 1, .return_, .return_)]
def lk_8 : List (Nat × Nat × Instr × Instr) := [(1, 3, .invokespecial 3, .monitorenter),
  (5, 3, .new 9, .new 1),
  (12, 3, .invokespecial 11, .invokespecial 2),
  (15, 3, .putfield 14, .putfield 225),
  (21, 2, .newarray .int, .newarray .int),
  (23, 3, .putfield 20, .putfield 226),
  (28, 3, .putfield 24, .putfield 224)]
def cd_8 : List (Nat × Nat × Instr × Instr) := sp_8 ++ lk_8
def sp_9 : List (Nat × Nat × Instr × Instr) := [(0, 1, .iload_n 1, .iload 1),
  (1, 3, .ifCond .lt 9, .ifCond .lt 10),
  (4, 1, .iload_n 1, .iload 1),
  (5, 2, .bipush 127, .iconst 127),
  (7, 3, .if_icmp .le 5, .if_icmp .le 12),
  (10, 1, .iconst (-1), .iconst (-1)),
  (11, 1, .ireturn, .ireturn),
  (12, 1, .aload_n 0, .aload 0),
  (19, 2, .bipush 40, .iconst 40),
  (21, 3, .if_icmp .lt 6, .if_icmp .lt 27),
  (24, 2, .bipush (-2), .iconst (-2)),
  (26, 1, .ireturn, .ireturn),
  (27, 1, .aload_n 0, .aload 0),
  (31, 1, .iload_n 1, .iload 1),
  (35, 1, .aload_n 0, .aload 0),
  (42, 1, .ireturn, .ireturn)]
def lk_9 : List (Nat × Nat × Instr × Instr) := [(13, 3, .getfield 14, .getfield 0),
  (16, 3, .invokevirtual 77, .invokevirtual 10),
  (28, 3, .getfield 14, .getfield 0),
  (32, 3, .invokevirtual 81, .invokevirtual 11),
  (36, 3, .getfield 14, .getfield 0),
  (39, 3, .invokevirtual 77, .invokevirtual 10)]
def cd_9 : List (Nat × Nat × Instr × Instr) := sp_9 ++ lk_9
def sp_10 : List (Nat × Nat × Instr × Instr) := [(0, 1, .aload_n 0, .aload 0),
  (4, 1, .ireturn, .ireturn)]
def lk_10 : List (Nat × Nat × Instr × Instr) := [(1, 3, .getfield 15, .getfield 33)]
def cd_10 : List (Nat × Nat × Instr × Instr) := sp_10 ++ lk_10
def sp_11 : List (Nat × Nat × Instr × Instr) := [(0, 1, .aload_n 0, .aload 0),
  (4, 1, .aload_n 0, .aload 0),
  (8, 1, .arraylength, .arraylength),
  (9, 3, .if_icmp .ne 33, .if_icmp .ne 42),
  (12, 1, .iconst 2, .iconst 2),
  (13, 1, .aload_n 0, .aload 0),
  (17, 1, .imul, .imul),
  (18, 1, .iconst 1, .iconst 1),
  (19, 1, .iadd, .iadd),
  (22, 1, .astore_n 2, .astore 2),
  (23, 1, .aload_n 0, .aload 0),
  (27, 1, .iconst 0, .iconst 0),
  (28, 1, .aload_n 2, .aload 2),
  (29, 1, .iconst 0, .iconst 0),
  (30, 1, .aload_n 0, .aload 0),
  (37, 1, .aload_n 0, .aload 0),
  (38, 1, .aload_n 2, .aload 2),
  (42, 1, .aload_n 0, .aload 0),
  (46, 1, .aload_n 0, .aload 0),
  (50, 1, .iload_n 1, .iload 1),
  (51, 1, .i2c, .i2c),
  (52, 1, .castore, .castore),
  (53, 1, .aload_n 0, .aload 0),
  (54, 1, .dup, .dup),
  (58, 1, .iconst 1, .iconst 1),
  (59, 1, .iadd, .iadd),
  (63, 1, .return_, .return_)]
def lk_11 : List (Nat × Nat × Instr × Instr) := [(1, 3, .getfield 15, .getfield 33),
  (5, 3, .getfield 9, .getfield 32),
  (14, 3, .getfield 15, .getfield 33),
  (20, 2, .newarray .char, .newarray .char),
  (24, 3, .getfield 9, .getfield 32),
  (31, 3, .getfield 15, .getfield 33),
  (34, 3, .invokestatic 19, .monitorexit),
  (39, 3, .putfield 9, .putfield 32),
  (43, 3, .getfield 9, .getfield 32),
  (47, 3, .getfield 15, .getfield 33),
  (55, 3, .getfield 15, .getfield 33),
  (60, 3, .putfield 15, .putfield 33)]
def cd_11 : List (Nat × Nat × Instr × Instr) := sp_11 ++ lk_11
def sp_12 : List (Nat × Nat × Instr × Instr) := [(0, 1, .iload_n 1, .iload 1),
  (1, 3, .ifCond .lt 8, .ifCond .lt 9),
  (4, 1, .iload_n 1, .iload 1),
  (5, 1, .iconst 4, .iconst 4),
  (6, 3, .if_icmp .lt 5, .if_icmp .lt 11),
  (9, 1, .iconst (-1), .iconst (-1)),
  (10, 1, .ireturn, .ireturn),
  (11, 1, .aload_n 0, .aload 0),
  (15, 1, .astore_n 2, .astore 2),
  (16, 1, .aload_n 2, .aload 2),
  (17, 3, .ifnonnull 6, .ifnonnull 23),
  (20, 2, .bipush (-3), .iconst (-3)),
  (22, 1, .ireturn, .ireturn),
  (23, 1, .aload_n 0, .aload 0),
  (27, 1, .iload_n 1, .iload 1),
  (28, 1, .aload_n 2, .aload 2),
  (32, 1, .aload_n 2, .aload 2),
  (36, 1, .ireturn, .ireturn)]
def lk_12 : List (Nat × Nat × Instr × Instr) := [(12, 3, .invokevirtual 84, .invokevirtual 13),
  (24, 3, .getfield 37, .getfield 3),
  (29, 3, .invokevirtual 88, .invokevirtual 19),
  (33, 3, .invokevirtual 92, .invokevirtual 20)]
def cd_12 : List (Nat × Nat × Instr × Instr) := sp_12 ++ lk_12
def sp_13 : List (Nat × Nat × Instr × Instr) := [(0, 1, .aload_n 0, .aload 0),
  (7, 1, .astore_n 1, .astore 1),
  (8, 1, .aload_n 0, .aload 0),
  (15, 1, .aload_n 1, .aload 1),
  (16, 1, .areturn, .areturn)]
def lk_13 : List (Nat × Nat × Instr × Instr) := [(1, 3, .getfield 14, .getfield 0),
  (4, 3, .invokestatic 168, .invokestatic 14),
  (9, 3, .getfield 14, .getfield 0),
  (12, 3, .invokevirtual 99, .invokevirtual 18)]
def cd_13 : List (Nat × Nat × Instr × Instr) := sp_13 ++ lk_13
def sp_14 : List (Nat × Nat × Instr × Instr) := [(3, 1, .dup, .dup),
  (7, 1, .astore_n 1, .astore 1),
  (8, 1, .iconst 0, .iconst 0),
  (9, 1, .istore_n 2, .istore 2),
  (10, 1, .aload_n 1, .aload 1),
  (14, 1, .iconst 4, .iconst 4),
  (15, 3, .if_icmp .ge 53, .if_icmp .ge 68),
  (18, 1, .iload_n 2, .iload 2),
  (19, 1, .aload_n 0, .aload 0),
  (23, 3, .if_icmp .ge 45, .if_icmp .ge 68),
  (26, 1, .aload_n 0, .aload 0),
  (27, 1, .iload_n 2, .iload 2),
  (31, 1, .astore_n 3, .astore 3),
  (32, 1, .aload_n 3, .aload 3),
  (33, 3, .ifnonnull 5, .ifnonnull 38),
  (36, 1, .aconst_null, .aconst_null),
  (37, 1, .areturn, .areturn),
  (38, 1, .aload_n 1, .aload 1),
  (42, 1, .aload_n 1, .aload 1),
  (46, 1, .aload_n 3, .aload 3),
  (47, 1, .aastore, .aastore),
  (48, 1, .aload_n 1, .aload 1),
  (49, 1, .dup, .dup),
  (53, 1, .iconst 1, .iconst 1),
  (54, 1, .iadd, .iadd),
  (58, 1, .iload_n 2, .iload 2),
  (59, 1, .aload_n 3, .aload 3),
  (63, 1, .iadd, .iadd),
  (64, 1, .istore_n 2, .istore 2),
  (65, 3, .goto (-55), .goto 10),
  (68, 1, .iload_n 2, .iload 2),
  (69, 1, .aload_n 0, .aload 0),
  (73, 3, .if_icmp .ge 7, .if_icmp .ge 80),
  (76, 1, .aconst_null, .aconst_null),
  (77, 3, .goto 4, .goto 81),
  (80, 1, .aload_n 1, .aload 1),
  (81, 1, .areturn, .areturn)]
def lk_14 : List (Nat × Nat × Instr × Instr) := [(0, 3, .new 12, .new 2),
  (4, 3, .invokespecial 17, .invokespecial 3),
  (11, 3, .getfield 18, .getfield 65),
  (20, 3, .invokevirtual 22, .invokevirtual 10),
  (28, 3, .invokestatic 28, .invokestatic 15),
  (39, 3, .getfield 11, .getfield 64),
  (43, 3, .getfield 18, .getfield 65),
  (50, 3, .getfield 18, .getfield 65),
  (55, 3, .putfield 18, .putfield 65),
  (60, 3, .invokevirtual 32, .invokevirtual 17),
  (70, 3, .invokevirtual 22, .invokevirtual 10)]
def cd_14 : List (Nat × Nat × Instr × Instr) := sp_14 ++ lk_14
def sp_15 : List (Nat × Nat × Instr × Instr) := [(0, 1, .iload_n 1, .iload 1),
  (1, 1, .istore_n 2, .istore 2),
  (2, 1, .iload_n 2, .iload 2),
  (3, 1, .aload_n 0, .aload 0),
  (7, 3, .if_icmp .ge 19, .if_icmp .ge 26),
  (10, 1, .aload_n 0, .aload 0),
  (11, 1, .iload_n 2, .iload 2),
  (15, 2, .bipush 91, .iconst 91),
  (17, 3, .if_icmp .ne 9, .if_icmp .ne 26),
  (20, 3, .iinc 2 1, .iinc 2 1),
  (23, 3, .goto (-21), .goto 2),
  (26, 1, .iload_n 2, .iload 2),
  (27, 1, .iload_n 1, .iload 1),
  (28, 1, .isub, .isub),
  (29, 1, .istore_n 3, .istore 3),
  (30, 1, .iload_n 3, .iload 3),
  (31, 1, .iconst 3, .iconst 3),
  (32, 3, .if_icmp .gt 11, .if_icmp .gt 43),
  (35, 1, .iload_n 2, .iload 2),
  (36, 1, .aload_n 0, .aload 0),
  (40, 3, .if_icmp .lt 5, .if_icmp .lt 45),
  (43, 1, .aconst_null, .aconst_null),
  (44, 1, .areturn, .areturn),
  (45, 1, .aload_n 0, .aload 0),
  (46, 1, .iload_n 2, .iload 2),
  (50, 2, .istore 4, .istore 4),
  (52, 2, .iload 4, .iload 4),
  (54, 2, .bipush 79, .iconst 79),
  (56, 3, .if_icmp .ne 43, .if_icmp .ne 99),
  (59, 1, .aload_n 0, .aload 0),
  (60, 1, .iload_n 2, .iload 2),
  (61, 1, .iconst 1, .iconst 1),
  (62, 1, .iadd, .iadd),
  (66, 2, .bipush 48, .iconst 48),
  (68, 1, .isub, .isub),
  (69, 2, .istore 5, .istore 5),
  (71, 2, .iload 5, .iload 5),
  (73, 3, .ifCond .lt 24, .ifCond .lt 97),
  (76, 2, .iload 5, .iload 5),
  (78, 1, .iconst 4, .iconst 4),
  (79, 3, .if_icmp .ge 18, .if_icmp .ge 97),
  (85, 1, .dup, .dup),
  (86, 1, .iload_n 3, .iload 3),
  (87, 2, .iload 4, .iload 4),
  (89, 2, .iload 5, .iload 5),
  (94, 3, .goto 4, .goto 98),
  (97, 1, .aconst_null, .aconst_null),
  (98, 1, .areturn, .areturn),
  (101, 2, .iload 4, .iload 4),
  (103, 1, .i2c, .i2c),
  (107, 3, .ifCond .lt 17, .ifCond .lt 124),
  (113, 1, .dup, .dup),
  (114, 1, .iload_n 3, .iload 3),
  (115, 2, .iload 4, .iload 4),
  (117, 1, .iconst 0, .iconst 0),
  (121, 3, .goto 4, .goto 125),
  (124, 1, .aconst_null, .aconst_null),
  (125, 1, .areturn, .areturn)]
def lk_15 : List (Nat × Nat × Instr × Instr) := [(4, 3, .invokevirtual 21, .invokevirtual 10),
  (12, 3, .invokevirtual 27, .invokevirtual 16),
  (37, 3, .invokevirtual 21, .invokevirtual 10),
  (47, 3, .invokevirtual 27, .invokevirtual 16),
  (63, 3, .invokevirtual 27, .invokevirtual 16),
  (82, 3, .new 10, .new 3),
  (91, 3, .invokespecial 31, .invokespecial 4),
  (99, 2, .ldc 34, .ldc 0),
  (104, 3, .invokevirtual 36, .invokevirtual 152),
  (110, 3, .new 10, .new 3),
  (118, 3, .invokespecial 31, .invokespecial 4)]
def cd_15 : List (Nat × Nat × Instr × Instr) := sp_15 ++ lk_15
def sp_16 : List (Nat × Nat × Instr × Instr) := [(0, 1, .iload_n 1, .iload 1),
  (1, 3, .ifCond .lt 20, .ifCond .lt 21),
  (4, 1, .iload_n 1, .iload 1),
  (5, 1, .aload_n 0, .aload 0),
  (9, 3, .if_icmp .ge 12, .if_icmp .ge 21),
  (12, 1, .aload_n 0, .aload 0),
  (16, 1, .iload_n 1, .iload 1),
  (17, 1, .caload, .caload),
  (18, 3, .goto 4, .goto 22),
  (21, 1, .iconst (-1), .iconst (-1)),
  (22, 1, .ireturn, .ireturn)]
def lk_16 : List (Nat × Nat × Instr × Instr) := [(6, 3, .getfield 15, .getfield 33),
  (13, 3, .getfield 9, .getfield 32)]
def cd_16 : List (Nat × Nat × Instr × Instr) := sp_16 ++ lk_16
def sp_17 : List (Nat × Nat × Instr × Instr) := [(0, 1, .aload_n 0, .aload 0),
  (4, 1, .aload_n 0, .aload 0),
  (8, 2, .bipush 79, .iconst 79),
  (10, 3, .if_icmp .ne 7, .if_icmp .ne 17),
  (13, 1, .iconst 2, .iconst 2),
  (14, 3, .goto 4, .goto 18),
  (17, 1, .iconst 1, .iconst 1),
  (18, 1, .iadd, .iadd),
  (19, 1, .ireturn, .ireturn)]
def lk_17 : List (Nat × Nat × Instr × Instr) := [(1, 3, .getfield 9, .getfield 96),
  (5, 3, .getfield 15, .getfield 97)]
def cd_17 : List (Nat × Nat × Instr × Instr) := sp_17 ++ lk_17
def sp_18 : List (Nat × Nat × Instr × Instr) := [(0, 1, .aload_n 0, .aload 0),
  (1, 1, .iconst 0, .iconst 0),
  (5, 1, .return_, .return_)]
def lk_18 : List (Nat × Nat × Instr × Instr) := [(2, 3, .putfield 15, .putfield 33)]
def cd_18 : List (Nat × Nat × Instr × Instr) := sp_18 ++ lk_18
def sp_19 : List (Nat × Nat × Instr × Instr) := [(0, 1, .aload_n 0, .aload 0),
  (4, 1, .iload_n 1, .iload 1),
  (5, 1, .aload_n 2, .aload 2),
  (6, 1, .aastore, .aastore),
  (7, 1, .return_, .return_)]
def lk_19 : List (Nat × Nat × Instr × Instr) := [(1, 3, .getfield 20, .getfield 129)]
def cd_19 : List (Nat × Nat × Instr × Instr) := sp_19 ++ lk_19
def sp_20 : List (Nat × Nat × Instr × Instr) := [(0, 1, .aload_n 0, .aload 0),
  (4, 1, .ireturn, .ireturn)]
def lk_20 : List (Nat × Nat × Instr × Instr) := [(1, 3, .getfield 18, .getfield 65)]
def cd_20 : List (Nat × Nat × Instr × Instr) := sp_20 ++ lk_20
def sp_21 : List (Nat × Nat × Instr × Instr) := [(0, 1, .aload_n 0, .aload 0),
  (4, 1, .astore_n 1, .astore 1),
  (5, 1, .aload_n 1, .aload 1),
  (6, 3, .ifnonnull 6, .ifnonnull 12),
  (9, 2, .bipush (-3), .iconst (-3)),
  (11, 1, .ireturn, .ireturn),
  (12, 1, .aload_n 0, .aload 0),
  (13, 1, .aload_n 1, .aload 1),
  (17, 1, .aload_n 1, .aload 1),
  (21, 1, .ireturn, .ireturn)]
def lk_21 : List (Nat × Nat × Instr × Instr) := [(1, 3, .invokevirtual 84, .invokevirtual 13),
  (14, 3, .putfield 21, .putfield 1),
  (18, 3, .invokevirtual 92, .invokevirtual 20)]
def cd_21 : List (Nat × Nat × Instr × Instr) := sp_21 ++ lk_21
def sp_22 : List (Nat × Nat × Instr × Instr) := [(0, 1, .aload_n 0, .aload 0),
  (7, 1, .astore_n 1, .astore 1),
  (8, 1, .aload_n 0, .aload 0),
  (15, 1, .aload_n 1, .aload 1),
  (16, 3, .ifnonnull 6, .ifnonnull 22),
  (19, 2, .bipush (-3), .iconst (-3)),
  (21, 1, .ireturn, .ireturn),
  (22, 1, .aload_n 0, .aload 0),
  (23, 1, .aload_n 1, .aload 1),
  (27, 1, .iconst 0, .iconst 0),
  (28, 1, .ireturn, .ireturn)]
def lk_22 : List (Nat × Nat × Instr × Instr) := [(1, 3, .getfield 14, .getfield 0),
  (4, 3, .invokestatic 95, .invokestatic 23),
  (9, 3, .getfield 14, .getfield 0),
  (12, 3, .invokevirtual 99, .invokevirtual 18),
  (24, 3, .putfield 30, .putfield 2)]
def cd_22 : List (Nat × Nat × Instr × Instr) := sp_22 ++ lk_22
def sp_23 : List (Nat × Nat × Instr × Instr) := [(0, 1, .aload_n 0, .aload 0),
  (6, 3, .ifCond .eq 15, .ifCond .eq 21),
  (12, 1, .dup, .dup),
  (13, 1, .iconst 0, .iconst 0),
  (14, 2, .bipush 86, .iconst 86),
  (16, 1, .iconst 0, .iconst 0),
  (20, 1, .areturn, .areturn),
  (21, 1, .aload_n 0, .aload 0),
  (22, 1, .iconst 0, .iconst 0),
  (26, 1, .astore_n 1, .astore 1),
  (27, 1, .aload_n 1, .aload 1),
  (28, 3, .ifnull 18, .ifnull 46),
  (31, 1, .aload_n 1, .aload 1),
  (35, 1, .aload_n 0, .aload 0),
  (39, 3, .if_icmp .ne 7, .if_icmp .ne 46),
  (42, 1, .aload_n 1, .aload 1),
  (43, 3, .goto 4, .goto 47),
  (46, 1, .aconst_null, .aconst_null),
  (47, 1, .areturn, .areturn)]
def lk_23 : List (Nat × Nat × Instr × Instr) := [(1, 2, .ldc 41, .ldc 2),
  (3, 3, .invokevirtual 43, .invokevirtual 24),
  (9, 3, .new 10, .new 3),
  (17, 3, .invokespecial 31, .invokespecial 4),
  (23, 3, .invokestatic 47, .invokestatic 15),
  (32, 3, .invokevirtual 51, .invokevirtual 17),
  (36, 3, .invokevirtual 21, .invokevirtual 10)]
def cd_23 : List (Nat × Nat × Instr × Instr) := sp_23 ++ lk_23
def sp_24 : List (Nat × Nat × Instr × Instr) := [(0, 1, .aload_n 1, .aload 1),
  (4, 1, .aload_n 0, .aload 0),
  (8, 3, .if_icmp .eq 5, .if_icmp .eq 13),
  (11, 1, .iconst 0, .iconst 0),
  (12, 1, .ireturn, .ireturn),
  (13, 1, .iconst 0, .iconst 0),
  (14, 1, .istore_n 2, .istore 2),
  (15, 1, .iload_n 2, .iload 2),
  (16, 1, .aload_n 0, .aload 0),
  (20, 3, .if_icmp .ge 25, .if_icmp .ge 45),
  (23, 1, .aload_n 1, .aload 1),
  (24, 1, .iload_n 2, .iload 2),
  (28, 1, .aload_n 0, .aload 0),
  (32, 1, .iload_n 2, .iload 2),
  (33, 1, .caload, .caload),
  (34, 3, .if_icmp .eq 5, .if_icmp .eq 39),
  (37, 1, .iconst 0, .iconst 0),
  (38, 1, .ireturn, .ireturn),
  (39, 3, .iinc 2 1, .iinc 2 1),
  (42, 3, .goto (-27), .goto 15),
  (45, 1, .iconst 1, .iconst 1),
  (46, 1, .ireturn, .ireturn)]
def lk_24 : List (Nat × Nat × Instr × Instr) := [(1, 3, .invokevirtual 25, .invokevirtual 148),
  (5, 3, .getfield 15, .getfield 33),
  (17, 3, .getfield 15, .getfield 33),
  (25, 3, .invokevirtual 30, .invokevirtual 150),
  (29, 3, .getfield 9, .getfield 32)]
def cd_24 : List (Nat × Nat × Instr × Instr) := sp_24 ++ lk_24
def sp_25 : List (Nat × Nat × Instr × Instr) := [(0, 1, .aload_n 0, .aload 0),
  (7, 1, .iload_n 1, .iload 1),
  (11, 3, .ifCond .eq 16, .ifCond .eq 27),
  (14, 1, .aload_n 0, .aload 0),
  (24, 3, .goto 5, .goto 29),
  (27, 2, .bipush (-2), .iconst (-2)),
  (29, 1, .ireturn, .ireturn)]
def lk_25 : List (Nat × Nat × Instr × Instr) := [(1, 3, .getfield 37, .getfield 3),
  (4, 3, .invokevirtual 102, .invokevirtual 26),
  (8, 3, .invokevirtual 106, .invokevirtual 27),
  (15, 3, .getfield 37, .getfield 3),
  (18, 3, .invokevirtual 102, .invokevirtual 26),
  (21, 3, .invokevirtual 112, .invokevirtual 28)]
def cd_25 : List (Nat × Nat × Instr × Instr) := sp_25 ++ lk_25
def sp_26 : List (Nat × Nat × Instr × Instr) := [(0, 1, .aload_n 0, .aload 0),
  (4, 1, .areturn, .areturn)]
def lk_26 : List (Nat × Nat × Instr × Instr) := [(1, 3, .getfield 12, .getfield 128)]
def cd_26 : List (Nat × Nat × Instr × Instr) := sp_26 ++ lk_26
def sp_27 : List (Nat × Nat × Instr × Instr) := [(0, 1, .aload_n 0, .aload 0),
  (4, 2, .bipush 60, .iconst 60),
  (6, 3, .if_icmp .lt 5, .if_icmp .lt 11),
  (9, 1, .iconst 0, .iconst 0),
  (10, 1, .ireturn, .ireturn),
  (11, 1, .aload_n 0, .aload 0),
  (15, 1, .aload_n 0, .aload 0),
  (19, 1, .iload_n 1, .iload 1),
  (20, 1, .iastore, .iastore),
  (21, 1, .aload_n 0, .aload 0),
  (22, 1, .dup, .dup),
  (26, 1, .iconst 1, .iconst 1),
  (27, 1, .iadd, .iadd),
  (31, 1, .iconst 1, .iconst 1),
  (32, 1, .ireturn, .ireturn)]
def lk_27 : List (Nat × Nat × Instr × Instr) := [(1, 3, .getfield 15, .getfield 161),
  (12, 3, .getfield 9, .getfield 160),
  (16, 3, .getfield 15, .getfield 161),
  (23, 3, .getfield 15, .getfield 161),
  (28, 3, .putfield 15, .putfield 161)]
def cd_27 : List (Nat × Nat × Instr × Instr) := sp_27 ++ lk_27
def sp_28 : List (Nat × Nat × Instr × Instr) := [(0, 1, .aload_n 0, .aload 0),
  (4, 1, .ireturn, .ireturn)]
def lk_28 : List (Nat × Nat × Instr × Instr) := [(1, 3, .getfield 15, .getfield 161)]
def cd_28 : List (Nat × Nat × Instr × Instr) := sp_28 ++ lk_28
def sp_29 : List (Nat × Nat × Instr × Instr) := [(0, 1, .aload_n 0, .aload 0),
  (10, 1, .istore_n 1, .istore 1),
  (11, 1, .aload_n 0, .aload 0),
  (21, 1, .iload_n 1, .iload 1),
  (22, 1, .ireturn, .ireturn)]
def lk_29 : List (Nat × Nat × Instr × Instr) := [(1, 3, .getfield 37, .getfield 3),
  (4, 3, .invokevirtual 102, .invokevirtual 26),
  (7, 3, .invokevirtual 112, .invokevirtual 28),
  (12, 3, .getfield 37, .getfield 3),
  (15, 3, .invokevirtual 102, .invokevirtual 26),
  (18, 3, .invokevirtual 113, .invokevirtual 30)]
def cd_29 : List (Nat × Nat × Instr × Instr) := sp_29 ++ lk_29
def sp_30 : List (Nat × Nat × Instr × Instr) := [(0, 1, .aload_n 0, .aload 0),
  (1, 1, .iconst 0, .iconst 0),
  (5, 1, .aload_n 0, .aload 0),
  (6, 1, .iconst 0, .iconst 0),
  (10, 1, .return_, .return_)]
def lk_30 : List (Nat × Nat × Instr × Instr) := [(2, 3, .putfield 15, .putfield 161),
  (7, 3, .putfield 19, .putfield 162)]
def cd_30 : List (Nat × Nat × Instr × Instr) := sp_30 ++ lk_30
def sp_31 : List (Nat × Nat × Instr × Instr) := [(0, 1, .aload_n 0, .aload 0),
  (7, 3, .ifCond .eq 6, .ifCond .eq 13),
  (10, 2, .bipush (-2), .iconst (-2)),
  (12, 1, .ireturn, .ireturn),
  (13, 1, .aload_n 0, .aload 0),
  (17, 1, .aload_n 0, .aload 0),
  (21, 1, .aload_n 0, .aload 0),
  (28, 1, .aload_n 0, .aload 0),
  (32, 1, .aload_n 0, .aload 0),
  (36, 1, .aload_n 0, .aload 0),
  (43, 1, .aload_n 0, .aload 0),
  (44, 1, .aload_n 0, .aload 0),
  (57, 1, .aload_n 0, .aload 0),
  (61, 1, .aload_n 0, .aload 0),
  (62, 1, .iconst 0, .iconst 0),
  (66, 1, .ireturn, .ireturn)]
def lk_31 : List (Nat × Nat × Instr × Instr) := [(1, 3, .getfield 53, .getfield 7),
  (4, 3, .invokevirtual 114, .invokevirtual 32),
  (14, 3, .getfield 37, .getfield 3),
  (18, 3, .getfield 21, .getfield 1),
  (22, 3, .getfield 41, .getfield 4),
  (25, 3, .invokevirtual 118, .invokevirtual 33),
  (29, 3, .getfield 37, .getfield 3),
  (33, 3, .getfield 30, .getfield 2),
  (37, 3, .getfield 44, .getfield 5),
  (40, 3, .invokevirtual 122, .invokevirtual 55),
  (45, 3, .getfield 37, .getfield 3),
  (48, 3, .invokevirtual 102, .invokevirtual 26),
  (51, 3, .invokevirtual 126, .invokevirtual 57),
  (54, 3, .putfield 57, .putfield 9),
  (58, 3, .invokevirtual 129, .invokevirtual 58),
  (63, 3, .invokevirtual 132, .invokevirtual 61)]
def cd_31 : List (Nat × Nat × Instr × Instr) := sp_31 ++ lk_31
def sp_32 : List (Nat × Nat × Instr × Instr) := [(0, 1, .aload_n 0, .aload 0),
  (4, 2, .bipush 20, .iconst 20),
  (6, 3, .if_icmp .lt 7, .if_icmp .lt 13),
  (9, 1, .iconst 1, .iconst 1),
  (10, 3, .goto 4, .goto 14),
  (13, 1, .iconst 0, .iconst 0),
  (14, 1, .ireturn, .ireturn)]
def lk_32 : List (Nat × Nat × Instr × Instr) := [(1, 3, .getfield 17, .getfield 193)]
def cd_32 : List (Nat × Nat × Instr × Instr) := sp_32 ++ lk_32
def sp_33 : List (Nat × Nat × Instr × Instr) := [(0, 1, .aload_n 0, .aload 0),
  (7, 1, .aload_n 2, .aload 2),
  (11, 1, .aload_n 2, .aload 2),
  (17, 1, .aload_n 0, .aload 0),
  (18, 1, .aload_n 1, .aload 1),
  (19, 1, .iconst 0, .iconst 0),
  (20, 1, .aload_n 2, .aload 2),
  (24, 1, .aload_n 2, .aload 2),
  (25, 2, .bipush 41, .iconst 41),
  (30, 1, .return_, .return_)]
def lk_33 : List (Nat × Nat × Instr × Instr) := [(1, 3, .getfield 12, .getfield 128),
  (4, 3, .invokevirtual 25, .invokevirtual 34),
  (8, 3, .invokevirtual 28, .invokevirtual 18),
  (12, 2, .ldc 33, .ldc 4),
  (14, 3, .invokevirtual 35, .invokevirtual 35),
  (21, 3, .invokevirtual 39, .invokevirtual 36),
  (27, 3, .invokevirtual 43, .invokevirtual 11)]
def cd_33 : List (Nat × Nat × Instr × Instr) := sp_33 ++ lk_33
def sp_34 : List (Nat × Nat × Instr × Instr) := [(0, 1, .aload_n 0, .aload 0),
  (1, 1, .iconst 0, .iconst 0),
  (5, 1, .return_, .return_)]
def lk_34 : List (Nat × Nat × Instr × Instr) := [(2, 3, .putfield 19, .putfield 162)]
def cd_34 : List (Nat × Nat × Instr × Instr) := sp_34 ++ lk_34
def sp_35 : List (Nat × Nat × Instr × Instr) := [(0, 1, .iconst 0, .iconst 0),
  (1, 1, .istore_n 2, .istore 2),
  (2, 1, .iload_n 2, .iload 2),
  (3, 1, .aload_n 1, .aload 1),
  (7, 3, .if_icmp .ge 18, .if_icmp .ge 25),
  (10, 1, .aload_n 0, .aload 0),
  (11, 1, .aload_n 1, .aload 1),
  (12, 1, .iload_n 2, .iload 2),
  (19, 3, .iinc 2 1, .iinc 2 1),
  (22, 3, .goto (-20), .goto 2),
  (25, 1, .return_, .return_)]
def lk_35 : List (Nat × Nat × Instr × Instr) := [(4, 3, .invokevirtual 25, .invokevirtual 148),
  (13, 3, .invokevirtual 30, .invokevirtual 150),
  (16, 3, .invokevirtual 34, .invokevirtual 11)]
def cd_35 : List (Nat × Nat × Instr × Instr) := sp_35 ++ lk_35
def sp_36 : List (Nat × Nat × Instr × Instr) := [(0, 1, .iconst 0, .iconst 0),
  (1, 2, .istore 4, .istore 4),
  (3, 2, .iload 4, .iload 4),
  (5, 1, .aload_n 1, .aload 1),
  (9, 3, .if_icmp .ge 28, .if_icmp .ge 37),
  (12, 2, .iload 4, .iload 4),
  (14, 1, .aload_n 3, .aload 3),
  (18, 1, .aload_n 0, .aload 0),
  (19, 1, .aload_n 1, .aload 1),
  (20, 2, .iload 4, .iload 4),
  (25, 1, .iconst 0, .iconst 0),
  (26, 1, .iload_n 2, .iload 2),
  (27, 1, .aload_n 3, .aload 3),
  (31, 3, .iinc 4 1, .iinc 4 1),
  (34, 3, .goto (-31), .goto 3),
  (37, 1, .return_, .return_)]
def lk_36 : List (Nat × Nat × Instr × Instr) := [(6, 3, .invokevirtual 56, .invokevirtual 20),
  (15, 3, .invokestatic 60, .invokestatic 37),
  (22, 3, .invokevirtual 64, .invokevirtual 38),
  (28, 3, .invokevirtual 52, .invokevirtual 39)]
def cd_36 : List (Nat × Nat × Instr × Instr) := sp_36 ++ lk_36
def sp_37 : List (Nat × Nat × Instr × Instr) := [(0, 1, .iload_n 0, .iload 0),
  (1, 3, .ifCond .le 9, .ifCond .le 10),
  (4, 1, .aload_n 1, .aload 1),
  (10, 1, .return_, .return_)]
def lk_37 : List (Nat × Nat × Instr × Instr) := [(5, 2, .ldc 171, .ldc 6),
  (7, 3, .invokevirtual 35, .invokevirtual 35)]
def cd_37 : List (Nat × Nat × Instr × Instr) := sp_37 ++ lk_37
def sp_38 : List (Nat × Nat × Instr × Instr) := [(0, 1, .aload_n 0, .aload 0),
  (4, 1, .iload_n 1, .iload 1),
  (5, 1, .aaload, .aaload),
  (6, 1, .areturn, .areturn)]
def lk_38 : List (Nat × Nat × Instr × Instr) := [(1, 3, .getfield 11, .getfield 64)]
def cd_38 : List (Nat × Nat × Instr × Instr) := sp_38 ++ lk_38
def sp_39 : List (Nat × Nat × Instr × Instr) := [(0, 2, .aload 4, .aload 4),
  (5, 3, .sipush 300, .iconst 300),
  (8, 3, .if_icmp .le 14, .if_icmp .le 22),
  (11, 1, .aload_n 0, .aload 0),
  (18, 3, .ifCond .eq 4, .ifCond .eq 22),
  (21, 1, .return_, .return_),
  (22, 1, .iload_n 2, .iload 2),
  (23, 1, .aload_n 1, .aload 1),
  (27, 3, .if_icmp .ge 13, .if_icmp .ge 40),
  (30, 1, .aload_n 0, .aload 0),
  (31, 1, .aload_n 1, .aload 1),
  (32, 1, .iload_n 2, .iload 2),
  (33, 1, .iload_n 3, .iload 3),
  (34, 2, .aload 4, .aload 4),
  (39, 1, .return_, .return_),
  (40, 1, .aload_n 1, .aload 1),
  (44, 116, .tableswitch 295 66 90 #[143, 191, 270, 295, 246, 295, 295, 222, 237, 295, 295, 295, 295, 295, 295, 295, 295, 167, 286, 295, 295, 295, 295, 295, 116], .lookupswitch 339 #[(66, 187), (67, 235), (68, 314), (69, 339), (70, 290), (71, 339), (72, 339), (73, 266), (74, 281), (75, 339), (76, 339), (77, 339), (78, 339), (79, 339), (80, 339), (81, 339), (82, 339), (83, 211), (84, 330), (85, 339), (86, 339), (87, 339), (88, 339), (89, 339), (90, 160)]),
  (160, 2, .aload 4, .aload 4),
  (162, 1, .aload_n 0, .aload 0),
  (169, 1, .iconst 1, .iconst 1),
  (170, 1, .iand, .iand),
  (171, 3, .ifCond .eq 8, .ifCond .eq 179),
  (176, 3, .goto 5, .goto 181),
  (184, 3, .goto 166, .goto 350),
  (187, 2, .aload 4, .aload 4),
  (194, 2, .aload 4, .aload 4),
  (196, 1, .aload_n 0, .aload 0),
  (203, 1, .i2b, .i2b),
  (204, 1, .i2l, .i2l),
  (208, 3, .goto 142, .goto 350),
  (211, 2, .aload 4, .aload 4),
  (218, 2, .aload 4, .aload 4),
  (220, 1, .aload_n 0, .aload 0),
  (227, 1, .i2s, .i2s),
  (228, 1, .i2l, .i2l),
  (232, 3, .goto 118, .goto 350),
  (235, 2, .aload 4, .aload 4),
  (237, 2, .bipush 39, .iconst 39),
  (242, 1, .aload_n 0, .aload 0),
  (249, 2, .bipush 39, .iconst 39),
  (251, 2, .aload 4, .aload 4),
  (256, 2, .aload 4, .aload 4),
  (258, 2, .bipush 39, .iconst 39),
  (263, 3, .goto 87, .goto 350),
  (266, 1, .aload_n 0, .aload 0),
  (273, 2, .aload 4, .aload 4),
  (278, 3, .goto 72, .goto 350),
  (281, 1, .aload_n 0, .aload 0),
  (282, 2, .aload 4, .aload 4),
  (287, 3, .goto 63, .goto 350),
  (290, 1, .aload_n 0, .aload 0),
  (297, 1, .i2f, .i2f),
  (298, 1, .f2l, .f2l),
  (299, 2, .aload 4, .aload 4),
  (304, 2, .aload 4, .aload 4),
  (306, 2, .bipush 102, .iconst 102),
  (311, 3, .goto 39, .goto 350),
  (314, 1, .aload_n 0, .aload 0),
  (321, 1, .i2l, .i2l),
  (322, 2, .aload 4, .aload 4),
  (327, 3, .goto 23, .goto 350),
  (330, 1, .aload_n 0, .aload 0),
  (331, 2, .aload 4, .aload 4),
  (336, 3, .goto 14, .goto 350),
  (339, 1, .aload_n 0, .aload 0),
  (340, 1, .aload_n 1, .aload 1),
  (344, 1, .iload_n 3, .iload 3),
  (345, 2, .aload 4, .aload 4),
  (350, 1, .return_, .return_)]
def lk_39 : List (Nat × Nat × Instr × Instr) := [(2, 3, .invokevirtual 68, .invokevirtual 10),
  (12, 3, .getfield 12, .getfield 128),
  (15, 3, .invokevirtual 71, .invokevirtual 40),
  (24, 3, .invokevirtual 75, .invokevirtual 41),
  (36, 3, .invokevirtual 78, .invokevirtual 42),
  (41, 3, .invokevirtual 81, .invokevirtual 46),
  (163, 3, .getfield 12, .getfield 128),
  (166, 3, .invokevirtual 84, .invokevirtual 43),
  (174, 2, .ldc 87, .ldc 34),
  (179, 2, .ldc 89, .ldc 36),
  (181, 3, .invokevirtual 35, .invokevirtual 35),
  (189, 2, .ldc 91, .ldc 38),
  (191, 3, .invokevirtual 35, .invokevirtual 35),
  (197, 3, .getfield 12, .getfield 128),
  (200, 3, .invokevirtual 84, .invokevirtual 43),
  (205, 3, .invokevirtual 93, .invokevirtual 47),
  (213, 2, .ldc 97, .ldc 40),
  (215, 3, .invokevirtual 35, .invokevirtual 35),
  (221, 3, .getfield 12, .getfield 128),
  (224, 3, .invokevirtual 84, .invokevirtual 43),
  (229, 3, .invokevirtual 93, .invokevirtual 47),
  (239, 3, .invokevirtual 43, .invokevirtual 11),
  (243, 3, .getfield 12, .getfield 128),
  (246, 3, .invokevirtual 84, .invokevirtual 43),
  (253, 3, .invokestatic 99, .invokestatic 48),
  (260, 3, .invokevirtual 43, .invokevirtual 11),
  (267, 3, .getfield 12, .getfield 128),
  (270, 3, .invokevirtual 84, .invokevirtual 43),
  (275, 3, .invokestatic 103, .invokestatic 49),
  (284, 3, .invokevirtual 106, .invokevirtual 50),
  (291, 3, .getfield 12, .getfield 128),
  (294, 3, .invokevirtual 84, .invokevirtual 43),
  (301, 3, .invokestatic 110, .invokestatic 51),
  (308, 3, .invokevirtual 43, .invokevirtual 11),
  (315, 3, .getfield 12, .getfield 128),
  (318, 3, .invokevirtual 84, .invokevirtual 43),
  (324, 3, .invokestatic 110, .invokestatic 51),
  (333, 3, .invokevirtual 114, .invokevirtual 52),
  (341, 3, .invokevirtual 117, .invokevirtual 53),
  (347, 3, .invokevirtual 120, .invokevirtual 54)]
def cd_39 : List (Nat × Nat × Instr × Instr) := sp_39 ++ lk_39
def sp_40 : List (Nat × Nat × Instr × Instr) := [(0, 1, .aload_n 0, .aload 0),
  (4, 1, .aload_n 0, .aload 0),
  (8, 3, .if_icmp .lt 7, .if_icmp .lt 15),
  (11, 1, .iconst 1, .iconst 1),
  (12, 3, .goto 4, .goto 16),
  (15, 1, .iconst 0, .iconst 0),
  (16, 1, .ireturn, .ireturn)]
def lk_40 : List (Nat × Nat × Instr × Instr) := [(1, 3, .getfield 19, .getfield 162),
  (5, 3, .getfield 15, .getfield 161)]
def cd_40 : List (Nat × Nat × Instr × Instr) := sp_40 ++ lk_40
def sp_41 : List (Nat × Nat × Instr × Instr) := [(0, 1, .aload_n 0, .aload 0),
  (4, 1, .ireturn, .ireturn)]
def lk_41 : List (Nat × Nat × Instr × Instr) := [(1, 3, .getfield 9, .getfield 96)]
def cd_41 : List (Nat × Nat × Instr × Instr) := sp_41 ++ lk_41
def sp_42 : List (Nat × Nat × Instr × Instr) := [(0, 1, .aload_n 0, .aload 0),
  (7, 2, .istore 5, .istore 5),
  (9, 2, .iload 5, .iload 5),
  (11, 3, .ifCond .ge 11, .ifCond .ge 22),
  (14, 2, .aload 4, .aload 4),
  (21, 1, .return_, .return_),
  (22, 1, .iload_n 2, .iload 2),
  (23, 3, .ifCond .ne 23, .ifCond .ne 46),
  (26, 2, .aload 4, .aload 4),
  (33, 1, .aload_n 1, .aload 1),
  (34, 2, .aload 4, .aload 4),
  (39, 2, .aload 4, .aload 4),
  (41, 2, .bipush 32, .iconst 32),
  (46, 2, .aload 4, .aload 4),
  (48, 2, .bipush 123, .iconst 123),
  (53, 1, .iconst 0, .iconst 0),
  (54, 2, .istore 6, .istore 6),
  (56, 2, .iload 6, .iload 6),
  (58, 2, .iload 5, .iload 5),
  (60, 1, .iconst 4, .iconst 4),
  (61, 1, .irem, .irem),
  (62, 3, .if_icmp .ge 27, .if_icmp .ge 89),
  (65, 2, .iload 6, .iload 6),
  (67, 2, .aload 4, .aload 4),
  (72, 1, .aload_n 0, .aload 0),
  (73, 1, .aload_n 1, .aload 1),
  (74, 1, .iload_n 2, .iload 2),
  (75, 1, .iconst 1, .iconst 1),
  (76, 1, .iadd, .iadd),
  (77, 1, .iload_n 3, .iload 3),
  (78, 2, .aload 4, .aload 4),
  (83, 3, .iinc 6 1, .iinc 6 1),
  (86, 3, .goto (-30), .goto 56),
  (89, 2, .aload 4, .aload 4),
  (91, 2, .bipush 125, .iconst 125),
  (96, 1, .return_, .return_)]
def lk_42 : List (Nat × Nat × Instr × Instr) := [(1, 3, .getfield 12, .getfield 128),
  (4, 3, .invokevirtual 84, .invokevirtual 43),
  (16, 2, .ldc 124, .ldc 8),
  (18, 3, .invokevirtual 35, .invokevirtual 35),
  (28, 2, .ldc 126, .ldc 10),
  (30, 3, .invokevirtual 35, .invokevirtual 35),
  (36, 3, .invokevirtual 128, .invokevirtual 44),
  (43, 3, .invokevirtual 43, .invokevirtual 11),
  (50, 3, .invokevirtual 43, .invokevirtual 11),
  (69, 3, .invokestatic 60, .invokestatic 37),
  (80, 3, .invokevirtual 52, .invokevirtual 39),
  (93, 3, .invokevirtual 43, .invokevirtual 11)]
def cd_42 : List (Nat × Nat × Instr × Instr) := sp_42 ++ lk_42
def sp_43 : List (Nat × Nat × Instr × Instr) := [(0, 1, .aload_n 0, .aload 0),
  (4, 3, .ifCond .eq 5, .ifCond .eq 9),
  (7, 1, .iconst 0, .iconst 0),
  (8, 1, .ireturn, .ireturn),
  (9, 1, .aload_n 0, .aload 0),
  (10, 1, .dup, .dup),
  (14, 1, .iconst 1, .iconst 1),
  (15, 1, .iadd, .iadd),
  (19, 1, .aload_n 0, .aload 0),
  (23, 1, .aload_n 0, .aload 0),
  (27, 1, .iconst 1, .iconst 1),
  (28, 1, .isub, .isub),
  (29, 1, .iaload, .iaload),
  (30, 1, .ireturn, .ireturn)]
def lk_43 : List (Nat × Nat × Instr × Instr) := [(1, 3, .invokevirtual 22, .invokevirtual 40),
  (11, 3, .getfield 19, .getfield 162),
  (16, 3, .putfield 19, .putfield 162),
  (20, 3, .getfield 9, .getfield 160),
  (24, 3, .getfield 19, .getfield 162)]
def cd_43 : List (Nat × Nat × Instr × Instr) := sp_43 ++ lk_43
def sp_44 : List (Nat × Nat × Instr × Instr) := [(0, 1, .aload_n 1, .aload 1),
  (1, 1, .aload_n 0, .aload 0),
  (8, 1, .aload_n 0, .aload 0),
  (12, 2, .bipush 79, .iconst 79),
  (14, 3, .if_icmp .ne 14, .if_icmp .ne 28),
  (17, 1, .aload_n 1, .aload 1),
  (18, 2, .bipush 48, .iconst 48),
  (20, 1, .aload_n 0, .aload 0),
  (24, 1, .iadd, .iadd),
  (28, 1, .iconst 0, .iconst 0),
  (29, 1, .istore_n 2, .istore 2),
  (30, 1, .iload_n 2, .iload 2),
  (31, 1, .aload_n 0, .aload 0),
  (35, 3, .if_icmp .ge 15, .if_icmp .ge 50),
  (38, 1, .aload_n 1, .aload 1),
  (44, 3, .iinc 2 1, .iinc 2 1),
  (47, 3, .goto (-17), .goto 30),
  (50, 1, .return_, .return_)]
def lk_44 : List (Nat × Nat × Instr × Instr) := [(2, 3, .invokevirtual 54, .invokevirtual 45),
  (5, 3, .invokevirtual 58, .invokevirtual 35),
  (9, 3, .getfield 15, .getfield 97),
  (21, 3, .getfield 18, .getfield 98),
  (25, 3, .invokevirtual 62, .invokevirtual 11),
  (32, 3, .getfield 9, .getfield 96),
  (39, 2, .ldc 65, .ldc 32),
  (41, 3, .invokevirtual 58, .invokevirtual 35)]
def cd_44 : List (Nat × Nat × Instr × Instr) := sp_44 ++ lk_44
def sp_45 : List (Nat × Nat × Instr × Instr) := [(0, 1, .aload_n 0, .aload 0),
  (4, 116, .tableswitch 143 66 90 #[119, 122, 137, 143, 134, 143, 143, 128, 131, 143, 143, 143, 143, 143, 143, 143, 143, 125, 140, 143, 143, 143, 143, 143, 116], .lookupswitch 147 #[(66, 123), (67, 126), (68, 141), (69, 147), (70, 138), (71, 147), (72, 147), (73, 132), (74, 135), (75, 147), (76, 147), (77, 147), (78, 147), (79, 147), (80, 147), (81, 147), (82, 147), (83, 129), (84, 144), (85, 147), (86, 147), (87, 147), (88, 147), (89, 147), (90, 120)]),
  (122, 1, .areturn, .areturn),
  (125, 1, .areturn, .areturn),
  (128, 1, .areturn, .areturn),
  (131, 1, .areturn, .areturn),
  (134, 1, .areturn, .areturn),
  (137, 1, .areturn, .areturn),
  (140, 1, .areturn, .areturn),
  (143, 1, .areturn, .areturn),
  (146, 1, .areturn, .areturn),
  (149, 1, .areturn, .areturn)]
def lk_45 : List (Nat × Nat × Instr × Instr) := [(1, 3, .getfield 15, .getfield 97),
  (120, 2, .ldc 67, .ldc 12),
  (123, 2, .ldc 69, .ldc 14),
  (126, 2, .ldc 71, .ldc 16),
  (129, 2, .ldc 73, .ldc 18),
  (132, 2, .ldc 75, .ldc 20),
  (135, 2, .ldc 77, .ldc 22),
  (138, 2, .ldc 79, .ldc 24),
  (141, 2, .ldc 81, .ldc 26),
  (144, 2, .ldc 83, .ldc 28),
  (147, 2, .ldc 85, .ldc 30)]
def cd_45 : List (Nat × Nat × Instr × Instr) := sp_45 ++ lk_45
def sp_46 : List (Nat × Nat × Instr × Instr) := [(0, 1, .aload_n 0, .aload 0),
  (4, 1, .ireturn, .ireturn)]
def lk_46 : List (Nat × Nat × Instr × Instr) := [(1, 3, .getfield 15, .getfield 97)]
def cd_46 : List (Nat × Nat × Instr × Instr) := sp_46 ++ lk_46
def sp_47 : List (Nat × Nat × Instr × Instr) := [(0, 1, .lload_n 1, .lload 1),
  (1, 1, .lconst 0, .ldc2_w 0),
  (2, 1, .lcmp, .lcmp),
  (3, 3, .ifCond .ge 9, .ifCond .ge 12),
  (6, 1, .aload_n 0, .aload 0),
  (7, 2, .bipush 45, .iconst 45),
  (12, 1, .lconst 1, .ldc2_w 1),
  (13, 1, .lstore_n 3, .lstore 3),
  (14, 1, .iconst 1, .iconst 1),
  (15, 2, .istore 5, .istore 5),
  (17, 2, .iload 5, .iload 5),
  (19, 2, .bipush 19, .iconst 19),
  (21, 3, .if_icmp .ge 35, .if_icmp .ge 56),
  (24, 1, .lload_n 1, .lload 1),
  (25, 1, .lload_n 3, .lload 3),
  (26, 1, .ldiv, .ldiv),
  (30, 1, .lcmp, .lcmp),
  (31, 3, .ifCond .gt 13, .ifCond .gt 44),
  (34, 1, .lload_n 1, .lload 1),
  (35, 1, .lload_n 3, .lload 3),
  (36, 1, .ldiv, .ldiv),
  (40, 1, .lcmp, .lcmp),
  (41, 3, .ifCond .ge 15, .ifCond .ge 56),
  (44, 1, .lload_n 3, .lload 3),
  (48, 1, .lmul, .lmul),
  (49, 1, .lstore_n 3, .lstore 3),
  (50, 3, .iinc 5 1, .iinc 5 1),
  (53, 3, .goto (-36), .goto 17),
  (56, 1, .lload_n 3, .lload 3),
  (57, 1, .lconst 0, .ldc2_w 0),
  (58, 1, .lcmp, .lcmp),
  (59, 3, .ifCond .le 30, .ifCond .le 89),
  (62, 1, .aload_n 0, .aload 0),
  (63, 2, .bipush 48, .iconst 48),
  (65, 1, .lload_n 1, .lload 1),
  (66, 1, .lload_n 3, .lload 3),
  (67, 1, .ldiv, .ldiv),
  (71, 1, .lrem, .lrem),
  (75, 1, .l2i, .l2i),
  (76, 1, .iadd, .iadd),
  (80, 1, .lload_n 3, .lload 3),
  (84, 1, .ldiv, .ldiv),
  (85, 1, .lstore_n 3, .lstore 3),
  (86, 3, .goto (-30), .goto 56),
  (89, 1, .return_, .return_)]
def lk_47 : List (Nat × Nat × Instr × Instr) := [(9, 3, .invokevirtual 34, .invokevirtual 11),
  (27, 3, .ldc2_w 45, .ldc2_w 9),
  (37, 3, .ldc2_w 47, .ldc2_w 18446744073709551607),
  (45, 3, .ldc2_w 49, .ldc2_w 10),
  (68, 3, .ldc2_w 49, .ldc2_w 10),
  (72, 3, .invokestatic 51, .dneg),
  (77, 3, .invokevirtual 34, .invokevirtual 11),
  (81, 3, .ldc2_w 49, .ldc2_w 10)]
def cd_47 : List (Nat × Nat × Instr × Instr) := sp_47 ++ lk_47
def sp_48 : List (Nat × Nat × Instr × Instr) := [(0, 1, .iload_n 0, .iload 0),
  (3, 1, .iand, .iand),
  (4, 1, .istore_n 3, .istore 3),
  (5, 1, .iload_n 3, .iload 3),
  (6, 34, .tableswitch 55 9 13 #[41, 34, 55, 55, 48], .lookupswitch 61 #[(9, 47), (10, 40), (11, 61), (12, 61), (13, 54)]),
  (40, 1, .aload_n 2, .aload 2),
  (46, 1, .return_, .return_),
  (47, 1, .aload_n 2, .aload 2),
  (53, 1, .return_, .return_),
  (54, 1, .aload_n 2, .aload 2),
  (60, 1, .return_, .return_),
  (61, 1, .iload_n 3, .iload 3),
  (62, 2, .bipush 92, .iconst 92),
  (64, 3, .if_icmp .eq 8, .if_icmp .eq 72),
  (67, 1, .iload_n 3, .iload 3),
  (68, 1, .iload_n 1, .iload 1),
  (69, 3, .if_icmp .ne 9, .if_icmp .ne 78),
  (72, 1, .aload_n 2, .aload 2),
  (73, 2, .bipush 92, .iconst 92),
  (78, 1, .iload_n 3, .iload 3),
  (79, 2, .bipush 32, .iconst 32),
  (81, 3, .if_icmp .lt 15, .if_icmp .lt 96),
  (84, 1, .iload_n 3, .iload 3),
  (85, 2, .bipush 126, .iconst 126),
  (87, 3, .if_icmp .gt 9, .if_icmp .gt 96),
  (90, 1, .aload_n 2, .aload 2),
  (91, 1, .iload_n 3, .iload 3),
  (95, 1, .return_, .return_),
  (96, 1, .aload_n 2, .aload 2),
  (102, 2, .bipush 12, .iconst 12),
  (104, 2, .istore 4, .istore 4),
  (106, 2, .iload 4, .iload 4),
  (108, 3, .ifCond .lt 25, .ifCond .lt 133),
  (111, 1, .aload_n 2, .aload 2),
  (114, 1, .iload_n 3, .iload 3),
  (115, 2, .iload 4, .iload 4),
  (117, 1, .ishr, .ishr),
  (118, 2, .bipush 15, .iconst 15),
  (120, 1, .iand, .iand),
  (127, 3, .iinc 4 (-4), .iinc 4 (-4)),
  (130, 3, .goto (-24), .goto 106),
  (133, 1, .return_, .return_)]
def lk_48 : List (Nat × Nat × Instr × Instr) := [(1, 2, .ldc 154, .iconst 65535),
  (41, 2, .ldc 155, .ldc 42),
  (43, 3, .invokevirtual 35, .invokevirtual 35),
  (48, 2, .ldc 157, .ldc 44),
  (50, 3, .invokevirtual 35, .invokevirtual 35),
  (55, 2, .ldc 159, .ldc 46),
  (57, 3, .invokevirtual 35, .invokevirtual 35),
  (75, 3, .invokevirtual 43, .invokevirtual 11),
  (92, 3, .invokevirtual 43, .invokevirtual 11),
  (97, 2, .ldc 161, .ldc 48),
  (99, 3, .invokevirtual 35, .invokevirtual 35),
  (112, 2, .ldc 163, .ldc 50),
  (121, 3, .invokevirtual 165, .invokevirtual 150),
  (124, 3, .invokevirtual 43, .invokevirtual 11)]
def cd_48 : List (Nat × Nat × Instr × Instr) := sp_48 ++ lk_48
def sp_49 : List (Nat × Nat × Instr × Instr) := [(0, 1, .iload_n 0, .iload 0),
  (3, 3, .if_icmp .ne 12, .if_icmp .ne 15),
  (6, 1, .aload_n 1, .aload 1),
  (12, 3, .goto 9, .goto 21),
  (15, 1, .aload_n 1, .aload 1),
  (16, 1, .iload_n 0, .iload 0),
  (17, 1, .i2l, .i2l),
  (21, 1, .return_, .return_)]
def lk_49 : List (Nat × Nat × Instr × Instr) := [(1, 2, .ldc 143, .iconst (-2147483648)),
  (7, 2, .ldc 144, .ldc 52),
  (9, 3, .invokevirtual 35, .invokevirtual 35),
  (18, 3, .invokevirtual 93, .invokevirtual 47)]
def cd_49 : List (Nat × Nat × Instr × Instr) := sp_49 ++ lk_49
def sp_50 : List (Nat × Nat × Instr × Instr) := [(0, 1, .aload_n 0, .aload 0),
  (7, 1, .i2l, .i2l),
  (8, 1, .lstore_n 2, .lstore 2),
  (9, 1, .aload_n 0, .aload 0),
  (16, 1, .i2l, .i2l),
  (20, 1, .land, .land),
  (21, 2, .lstore 4, .lstore 4),
  (23, 1, .lload_n 2, .lload 2),
  (24, 2, .bipush 32, .iconst 32),
  (26, 1, .lshl, .lshl),
  (27, 2, .lload 4, .lload 4),
  (29, 1, .ladd, .ladd),
  (30, 2, .lstore 6, .lstore 6),
  (32, 2, .lload 6, .lload 6),
  (37, 1, .lcmp, .lcmp),
  (38, 3, .ifCond .ne 12, .ifCond .ne 50),
  (41, 1, .aload_n 1, .aload 1),
  (47, 3, .goto 15, .goto 62),
  (50, 1, .aload_n 1, .aload 1),
  (51, 2, .lload 6, .lload 6),
  (56, 1, .aload_n 1, .aload 1),
  (57, 2, .bipush 76, .iconst 76),
  (62, 1, .return_, .return_)]
def lk_50 : List (Nat × Nat × Instr × Instr) := [(1, 3, .getfield 12, .getfield 128),
  (4, 3, .invokevirtual 84, .invokevirtual 43),
  (10, 3, .getfield 12, .getfield 128),
  (13, 3, .invokevirtual 84, .invokevirtual 43),
  (17, 3, .ldc2_w 133, .ldc2_w 4294967295),
  (34, 3, .ldc2_w 137, .ldc2_w 9223372036854775808),
  (42, 2, .ldc 139, .ldc 54),
  (44, 3, .invokevirtual 35, .invokevirtual 35),
  (53, 3, .invokevirtual 93, .invokevirtual 47),
  (59, 3, .invokevirtual 43, .invokevirtual 11)]
def cd_50 : List (Nat × Nat × Instr × Instr) := sp_50 ++ lk_50
def sp_51 : List (Nat × Nat × Instr × Instr) := [(0, 1, .lload_n 0, .lload 0),
  (1, 1, .lconst 0, .ldc2_w 0),
  (2, 1, .lcmp, .lcmp),
  (3, 3, .ifCond .ge 9, .ifCond .ge 12),
  (6, 1, .aload_n 2, .aload 2),
  (7, 2, .bipush 45, .iconst 45),
  (12, 1, .lload_n 0, .lload 0),
  (16, 1, .lstore_n 3, .lstore 3),
  (17, 1, .lload_n 3, .lload 3),
  (21, 1, .lrem, .lrem),
  (22, 1, .l2i, .l2i),
  (23, 2, .bipush 125, .iconst 125),
  (25, 1, .imul, .imul),
  (26, 2, .istore 5, .istore 5),
  (28, 1, .aload_n 2, .aload 2),
  (29, 1, .lload_n 3, .lload 3),
  (33, 1, .ldiv, .ldiv),
  (37, 1, .aload_n 2, .aload 2),
  (38, 2, .bipush 46, .iconst 46),
  (43, 1, .aload_n 2, .aload 2),
  (44, 2, .bipush 48, .iconst 48),
  (46, 2, .iload 5, .iload 5),
  (48, 2, .bipush 100, .iconst 100),
  (50, 1, .idiv, .idiv),
  (51, 1, .iadd, .iadd),
  (55, 2, .iload 5, .iload 5),
  (57, 2, .bipush 100, .iconst 100),
  (59, 1, .irem, .irem),
  (60, 3, .ifCond .eq 18, .ifCond .eq 78),
  (63, 1, .aload_n 2, .aload 2),
  (64, 2, .bipush 48, .iconst 48),
  (66, 2, .iload 5, .iload 5),
  (68, 2, .bipush 10, .iconst 10),
  (70, 1, .idiv, .idiv),
  (71, 2, .bipush 10, .iconst 10),
  (73, 1, .irem, .irem),
  (74, 1, .iadd, .iadd),
  (78, 2, .iload 5, .iload 5),
  (80, 2, .bipush 10, .iconst 10),
  (82, 1, .irem, .irem),
  (83, 3, .ifCond .eq 15, .ifCond .eq 98),
  (86, 1, .aload_n 2, .aload 2),
  (87, 2, .bipush 48, .iconst 48),
  (89, 2, .iload 5, .iload 5),
  (91, 2, .bipush 10, .iconst 10),
  (93, 1, .irem, .irem),
  (94, 1, .iadd, .iadd),
  (98, 1, .return_, .return_)]
def lk_51 : List (Nat × Nat × Instr × Instr) := [(9, 3, .invokevirtual 43, .invokevirtual 11),
  (13, 3, .invokestatic 146, .dneg),
  (18, 3, .ldc2_w 152, .ldc2_w 8),
  (30, 3, .ldc2_w 152, .ldc2_w 8),
  (34, 3, .invokevirtual 93, .invokevirtual 47),
  (40, 3, .invokevirtual 43, .invokevirtual 11),
  (52, 3, .invokevirtual 43, .invokevirtual 11),
  (75, 3, .invokevirtual 43, .invokevirtual 11),
  (95, 3, .invokevirtual 43, .invokevirtual 11)]
def cd_51 : List (Nat × Nat × Instr × Instr) := sp_51 ++ lk_51
def sp_52 : List (Nat × Nat × Instr × Instr) := [(0, 1, .aload_n 0, .aload 0),
  (7, 1, .istore_n 2, .istore 2),
  (8, 1, .iload_n 2, .iload 2),
  (9, 3, .ifCond .ge 10, .ifCond .ge 19),
  (12, 1, .aload_n 1, .aload 1),
  (18, 1, .return_, .return_),
  (19, 1, .aload_n 1, .aload 1),
  (20, 2, .bipush 34, .iconst 34),
  (25, 1, .iconst 0, .iconst 0),
  (26, 1, .istore_n 3, .istore 3),
  (27, 1, .iload_n 3, .iload 3),
  (28, 1, .iload_n 2, .iload 2),
  (29, 1, .iconst 5, .iconst 5),
  (30, 1, .irem, .irem),
  (31, 3, .if_icmp .ge 22, .if_icmp .ge 53),
  (34, 1, .aload_n 0, .aload 0),
  (41, 2, .bipush 34, .iconst 34),
  (43, 1, .aload_n 1, .aload 1),
  (47, 3, .iinc 3 1, .iinc 3 1),
  (50, 3, .goto (-23), .goto 27),
  (53, 1, .aload_n 1, .aload 1),
  (54, 2, .bipush 34, .iconst 34),
  (59, 1, .return_, .return_)]
def lk_52 : List (Nat × Nat × Instr × Instr) := [(1, 3, .getfield 12, .getfield 128),
  (4, 3, .invokevirtual 84, .invokevirtual 43),
  (13, 2, .ldc 124, .ldc 8),
  (15, 3, .invokevirtual 35, .invokevirtual 35),
  (22, 3, .invokevirtual 43, .invokevirtual 11),
  (35, 3, .getfield 12, .getfield 128),
  (38, 3, .invokevirtual 84, .invokevirtual 43),
  (44, 3, .invokestatic 99, .invokestatic 48),
  (56, 3, .invokevirtual 43, .invokevirtual 11)]
def cd_52 : List (Nat × Nat × Instr × Instr) := sp_52 ++ lk_52
def sp_53 : List (Nat × Nat × Instr × Instr) := [(0, 1, .aload_n 0, .aload 0),
  (4, 1, .ireturn, .ireturn)]
def lk_53 : List (Nat × Nat × Instr × Instr) := [(1, 3, .getfield 18, .getfield 98)]
def cd_53 : List (Nat × Nat × Instr × Instr) := sp_53 ++ lk_53
def sp_54 : List (Nat × Nat × Instr × Instr) := [(0, 1, .aload_n 0, .aload 0),
  (7, 2, .istore 4, .istore 4),
  (9, 2, .iload 4, .iload 4),
  (11, 3, .ifCond .lt 8, .ifCond .lt 19),
  (14, 1, .iload_n 2, .iload 2),
  (15, 1, .iconst 4, .iconst 4),
  (16, 3, .if_icmp .lt 10, .if_icmp .lt 26),
  (19, 1, .aload_n 3, .aload 3),
  (25, 1, .return_, .return_),
  (26, 1, .aload_n 3, .aload 3),
  (32, 1, .aload_n 3, .aload 3),
  (33, 2, .bipush 48, .iconst 48),
  (35, 1, .iload_n 1, .iload 1),
  (36, 1, .iadd, .iadd),
  (40, 1, .aload_n 3, .aload 3),
  (41, 2, .bipush 40, .iconst 40),
  (46, 1, .aload_n 0, .aload 0),
  (47, 1, .aload_n 0, .aload 0),
  (51, 1, .iload_n 1, .iload 1),
  (52, 1, .aaload, .aaload),
  (53, 1, .iload_n 2, .iload 2),
  (54, 1, .iconst 1, .iconst 1),
  (55, 1, .iadd, .iadd),
  (56, 1, .aload_n 3, .aload 3),
  (60, 1, .aload_n 3, .aload 3),
  (61, 2, .bipush 41, .iconst 41),
  (66, 1, .return_, .return_)]
def lk_54 : List (Nat × Nat × Instr × Instr) := [(1, 3, .getfield 12, .getfield 128),
  (4, 3, .invokevirtual 84, .invokevirtual 43),
  (20, 2, .ldc 124, .ldc 8),
  (22, 3, .invokevirtual 35, .invokevirtual 35),
  (27, 2, .ldc 131, .ldc 56),
  (29, 3, .invokevirtual 35, .invokevirtual 35),
  (37, 3, .invokevirtual 43, .invokevirtual 11),
  (43, 3, .invokevirtual 43, .invokevirtual 11),
  (48, 3, .getfield 20, .getfield 129),
  (57, 3, .invokevirtual 39, .invokevirtual 36),
  (63, 3, .invokevirtual 43, .invokevirtual 11)]
def cd_54 : List (Nat × Nat × Instr × Instr) := sp_54 ++ lk_54
def sp_55 : List (Nat × Nat × Instr × Instr) := [(0, 1, .aload_n 2, .aload 2),
  (4, 1, .aload_n 1, .aload 1),
  (5, 2, .bipush 86, .iconst 86),
  (10, 3, .ifCond .ne 11, .ifCond .ne 21),
  (13, 1, .aload_n 0, .aload 0),
  (14, 1, .aload_n 1, .aload 1),
  (15, 1, .iconst 0, .iconst 0),
  (16, 1, .iconst 0, .iconst 0),
  (17, 1, .aload_n 2, .aload 2),
  (21, 1, .return_, .return_)]
def lk_55 : List (Nat × Nat × Instr × Instr) := [(1, 3, .invokevirtual 28, .invokevirtual 18),
  (7, 3, .invokevirtual 46, .invokevirtual 56),
  (18, 3, .invokevirtual 52, .invokevirtual 39)]
def cd_55 : List (Nat × Nat × Instr × Instr) := sp_55 ++ lk_55
def sp_56 : List (Nat × Nat × Instr × Instr) := [(0, 1, .aload_n 0, .aload 0),
  (4, 3, .ifCond .ne 15, .ifCond .ne 19),
  (7, 1, .aload_n 0, .aload 0),
  (11, 1, .iload_n 1, .iload 1),
  (12, 3, .if_icmp .ne 7, .if_icmp .ne 19),
  (15, 1, .iconst 1, .iconst 1),
  (16, 3, .goto 4, .goto 20),
  (19, 1, .iconst 0, .iconst 0),
  (20, 1, .ireturn, .ireturn)]
def lk_56 : List (Nat × Nat × Instr × Instr) := [(1, 3, .getfield 9, .getfield 96),
  (8, 3, .getfield 15, .getfield 97)]
def cd_56 : List (Nat × Nat × Instr × Instr) := sp_56 ++ lk_56
def sp_57 : List (Nat × Nat × Instr × Instr) := [(0, 1, .aload_n 0, .aload 0),
  (4, 1, .ireturn, .ireturn)]
def lk_57 : List (Nat × Nat × Instr × Instr) := [(1, 3, .getfield 19, .getfield 162)]
def cd_57 : List (Nat × Nat × Instr × Instr) := sp_57 ++ lk_57
def sp_58 : List (Nat × Nat × Instr × Instr) := [(0, 1, .aload_n 0, .aload 0),
  (7, 1, .aload_n 0, .aload 0),
  (11, 2, .bipush 86, .iconst 86),
  (16, 3, .ifCond .eq 24, .ifCond .eq 40),
  (19, 1, .aload_n 0, .aload 0),
  (23, 1, .aload_n 0, .aload 0),
  (30, 1, .aload_n 0, .aload 0),
  (39, 1, .return_, .return_),
  (40, 1, .aload_n 0, .aload 0),
  (44, 2, .bipush 90, .iconst 90),
  (49, 3, .ifCond .eq 32, .ifCond .eq 81),
  (52, 1, .aload_n 0, .aload 0),
  (56, 1, .aload_n 0, .aload 0),
  (65, 3, .ifCond .eq 8, .ifCond .eq 73),
  (70, 3, .goto 5, .goto 75),
  (78, 3, .goto 71, .goto 149),
  (81, 1, .aload_n 0, .aload 0),
  (90, 3, .ifCond .eq 15, .ifCond .eq 105),
  (93, 1, .aload_n 0, .aload 0),
  (102, 3, .goto 47, .goto 149),
  (105, 1, .aload_n 0, .aload 0),
  (109, 1, .aload_n 0, .aload 0),
  (116, 3, .ifCond .le 8, .ifCond .le 124),
  (121, 3, .goto 5, .goto 126),
  (129, 1, .aload_n 0, .aload 0),
  (133, 1, .aload_n 0, .aload 0),
  (140, 1, .aload_n 0, .aload 0),
  (149, 1, .aload_n 0, .aload 0),
  (153, 1, .aload_n 0, .aload 0),
  (160, 1, .aload_n 0, .aload 0),
  (164, 1, .aload_n 0, .aload 0),
  (168, 2, .bipush 70, .iconst 70),
  (173, 3, .ifCond .eq 8, .ifCond .eq 181),
  (178, 3, .goto 22, .goto 200),
  (181, 1, .aload_n 0, .aload 0),
  (185, 2, .bipush 68, .iconst 68),
  (190, 3, .ifCond .eq 8, .ifCond .eq 198),
  (195, 3, .goto 5, .goto 200),
  (203, 1, .aload_n 0, .aload 0),
  (212, 1, .return_, .return_)]
def lk_58 : List (Nat × Nat × Instr × Instr) := [(1, 3, .getfield 47, .getfield 6),
  (4, 3, .invokevirtual 99, .invokevirtual 18),
  (8, 3, .getfield 30, .getfield 2),
  (13, 3, .invokevirtual 172, .invokevirtual 56),
  (20, 3, .getfield 47, .getfield 6),
  (24, 3, .getfield 41, .getfield 4),
  (27, 3, .invokevirtual 175, .invokevirtual 59),
  (31, 3, .getfield 47, .getfield 6),
  (34, 2, .ldc 178, .ldc 58),
  (36, 3, .invokevirtual 180, .invokevirtual 35),
  (41, 3, .getfield 30, .getfield 2),
  (46, 3, .invokevirtual 172, .invokevirtual 56),
  (53, 3, .getfield 47, .getfield 6),
  (57, 3, .getfield 44, .getfield 5),
  (60, 2, .ldc 183, .ldc 34),
  (62, 3, .invokevirtual 185, .invokevirtual 24),
  (68, 2, .ldc 189, .ldc 60),
  (73, 2, .ldc 191, .ldc 62),
  (75, 3, .invokevirtual 180, .invokevirtual 35),
  (82, 3, .getfield 44, .getfield 5),
  (85, 2, .ldc 193, .ldc 8),
  (87, 3, .invokevirtual 185, .invokevirtual 24),
  (94, 3, .getfield 47, .getfield 6),
  (97, 2, .ldc 195, .ldc 64),
  (99, 3, .invokevirtual 180, .invokevirtual 35),
  (106, 3, .getfield 47, .getfield 6),
  (110, 3, .getfield 30, .getfield 2),
  (113, 3, .invokevirtual 197, .invokevirtual 41),
  (119, 2, .ldc 200, .ldc 66),
  (124, 2, .ldc 202, .ldc 68),
  (126, 3, .invokevirtual 180, .invokevirtual 35),
  (130, 3, .getfield 47, .getfield 6),
  (134, 3, .getfield 44, .getfield 5),
  (137, 3, .invokevirtual 175, .invokevirtual 59),
  (141, 3, .getfield 47, .getfield 6),
  (144, 2, .ldc 204, .ldc 6),
  (146, 3, .invokevirtual 180, .invokevirtual 35),
  (150, 3, .getfield 47, .getfield 6),
  (154, 3, .getfield 41, .getfield 4),
  (157, 3, .invokevirtual 175, .invokevirtual 59),
  (161, 3, .getfield 47, .getfield 6),
  (165, 3, .getfield 30, .getfield 2),
  (170, 3, .invokevirtual 172, .invokevirtual 56),
  (176, 2, .ldc 206, .ldc 70),
  (182, 3, .getfield 30, .getfield 2),
  (187, 3, .invokevirtual 172, .invokevirtual 56),
  (193, 2, .ldc 208, .ldc 72),
  (198, 2, .ldc 210, .ldc 74),
  (200, 3, .invokevirtual 180, .invokevirtual 35),
  (204, 3, .getfield 47, .getfield 6),
  (207, 2, .ldc 212, .ldc 76),
  (209, 3, .invokevirtual 180, .invokevirtual 35)]
def cd_58 : List (Nat × Nat × Instr × Instr) := sp_58 ++ lk_58
def sp_59 : List (Nat × Nat × Instr × Instr) := [(0, 1, .aload_n 0, .aload 0),
  (1, 1, .aload_n 1, .aload 1),
  (2, 1, .iconst 0, .iconst 0),
  (3, 1, .aload_n 1, .aload 1),
  (10, 1, .return_, .return_)]
def lk_59 : List (Nat × Nat × Instr × Instr) := [(4, 3, .getfield 15, .getfield 33),
  (7, 3, .invokevirtual 38, .invokevirtual 60)]
def cd_59 : List (Nat × Nat × Instr × Instr) := sp_59 ++ lk_59
def sp_60 : List (Nat × Nat × Instr × Instr) := [(0, 1, .iload_n 2, .iload 2),
  (1, 2, .istore 4, .istore 4),
  (3, 2, .iload 4, .iload 4),
  (5, 1, .iload_n 3, .iload 3),
  (6, 3, .if_icmp .ge 19, .if_icmp .ge 25),
  (9, 1, .aload_n 0, .aload 0),
  (10, 1, .aload_n 1, .aload 1),
  (11, 2, .iload 4, .iload 4),
  (19, 3, .iinc 4 1, .iinc 4 1),
  (22, 3, .goto (-19), .goto 3),
  (25, 1, .return_, .return_)]
def lk_60 : List (Nat × Nat × Instr × Instr) := [(13, 3, .invokevirtual 41, .invokevirtual 16),
  (16, 3, .invokevirtual 34, .invokevirtual 11)]
def cd_60 : List (Nat × Nat × Instr × Instr) := sp_60 ++ lk_60
def sp_61 : List (Nat × Nat × Instr × Instr) := [(0, 1, .aload_n 0, .aload 0),
  (7, 3, .sipush 300, .iconst 300),
  (10, 3, .if_icmp .le 6, .if_icmp .le 16),
  (13, 2, .bipush (-5), .iconst (-5)),
  (15, 1, .ireturn, .ireturn),
  (16, 1, .aload_n 0, .aload 0),
  (20, 1, .aload_n 0, .aload 0),
  (27, 3, .ifCond .eq 6, .ifCond .eq 33),
  (30, 2, .bipush (-4), .iconst (-4)),
  (32, 1, .ireturn, .ireturn),
  (33, 1, .aload_n 0, .aload 0),
  (37, 1, .aload_n 0, .aload 0),
  (41, 1, .iload_n 1, .iload 1),
  (45, 1, .ireturn, .ireturn)]
def lk_61 : List (Nat × Nat × Instr × Instr) := [(1, 3, .getfield 47, .getfield 6),
  (4, 3, .invokevirtual 77, .invokevirtual 10),
  (17, 3, .getfield 53, .getfield 7),
  (21, 3, .getfield 47, .getfield 6),
  (24, 3, .invokevirtual 222, .invokevirtual 62),
  (34, 3, .getfield 53, .getfield 7),
  (38, 3, .getfield 47, .getfield 6),
  (42, 3, .invokevirtual 225, .invokevirtual 64)]
def cd_61 : List (Nat × Nat × Instr × Instr) := sp_61 ++ lk_61
def sp_62 : List (Nat × Nat × Instr × Instr) := [(0, 1, .iconst 0, .iconst 0),
  (1, 1, .istore_n 2, .istore 2),
  (2, 1, .iload_n 2, .iload 2),
  (3, 1, .aload_n 0, .aload 0),
  (7, 3, .if_icmp .ge 24, .if_icmp .ge 31),
  (10, 1, .aload_n 0, .aload 0),
  (14, 1, .iload_n 2, .iload 2),
  (15, 1, .aaload, .aaload),
  (16, 1, .aload_n 1, .aload 1),
  (20, 3, .ifCond .eq 5, .ifCond .eq 25),
  (23, 1, .iconst 1, .iconst 1),
  (24, 1, .ireturn, .ireturn),
  (25, 3, .iinc 2 1, .iinc 2 1),
  (28, 3, .goto (-26), .goto 2),
  (31, 1, .iconst 0, .iconst 0),
  (32, 1, .ireturn, .ireturn)]
def lk_62 : List (Nat × Nat × Instr × Instr) := [(4, 3, .getfield 17, .getfield 193),
  (11, 3, .getfield 11, .getfield 192),
  (17, 3, .invokevirtual 24, .invokevirtual 63)]
def cd_62 : List (Nat × Nat × Instr × Instr) := sp_62 ++ lk_62
def sp_63 : List (Nat × Nat × Instr × Instr) := [(0, 1, .aload_n 1, .aload 1),
  (4, 1, .aload_n 0, .aload 0),
  (8, 3, .if_icmp .eq 5, .if_icmp .eq 13),
  (11, 1, .iconst 0, .iconst 0),
  (12, 1, .ireturn, .ireturn),
  (13, 1, .iconst 0, .iconst 0),
  (14, 1, .istore_n 2, .istore 2),
  (15, 1, .iload_n 2, .iload 2),
  (16, 1, .aload_n 0, .aload 0),
  (20, 3, .if_icmp .ge 26, .if_icmp .ge 46),
  (23, 1, .aload_n 1, .aload 1),
  (27, 1, .iload_n 2, .iload 2),
  (28, 1, .caload, .caload),
  (29, 1, .aload_n 0, .aload 0),
  (33, 1, .iload_n 2, .iload 2),
  (34, 1, .caload, .caload),
  (35, 3, .if_icmp .eq 5, .if_icmp .eq 40),
  (38, 1, .iconst 0, .iconst 0),
  (39, 1, .ireturn, .ireturn),
  (40, 3, .iinc 2 1, .iinc 2 1),
  (43, 3, .goto (-28), .goto 15),
  (46, 1, .iconst 1, .iconst 1),
  (47, 1, .ireturn, .ireturn)]
def lk_63 : List (Nat × Nat × Instr × Instr) := [(1, 3, .getfield 15, .getfield 33),
  (5, 3, .getfield 15, .getfield 33),
  (17, 3, .getfield 15, .getfield 33),
  (24, 3, .getfield 9, .getfield 32),
  (30, 3, .getfield 9, .getfield 32)]
def cd_63 : List (Nat × Nat × Instr × Instr) := sp_63 ++ lk_63
def sp_64 : List (Nat × Nat × Instr × Instr) := [(0, 1, .aload_n 0, .aload 0),
  (4, 3, .ifCond .eq 6, .ifCond .eq 10),
  (7, 2, .bipush (-2), .iconst (-2)),
  (9, 1, .ireturn, .ireturn),
  (10, 1, .aload_n 0, .aload 0),
  (14, 1, .aload_n 0, .aload 0),
  (21, 1, .dup, .dup),
  (22, 1, .aload_n 1, .aload 1),
  (29, 1, .aastore, .aastore),
  (30, 1, .aload_n 0, .aload 0),
  (34, 1, .aload_n 0, .aload 0),
  (38, 1, .aaload, .aaload),
  (39, 1, .aload_n 1, .aload 1),
  (43, 1, .aload_n 0, .aload 0),
  (44, 1, .dup, .dup),
  (48, 1, .iconst 1, .iconst 1),
  (49, 1, .iadd, .iadd),
  (53, 1, .aload_n 0, .aload 0),
  (54, 1, .dup, .dup),
  (58, 1, .iload_n 2, .iload 2),
  (59, 3, .ifCond .eq 7, .ifCond .eq 66),
  (62, 1, .iconst 1, .iconst 1),
  (63, 3, .goto 4, .goto 67),
  (66, 1, .iconst 0, .iconst 0),
  (67, 1, .iadd, .iadd),
  (71, 1, .aload_n 0, .aload 0),
  (75, 1, .iconst 1, .iconst 1),
  (76, 1, .isub, .isub),
  (77, 1, .ireturn, .ireturn)]
def lk_64 : List (Nat × Nat × Instr × Instr) := [(1, 3, .invokevirtual 28, .invokevirtual 32),
  (11, 3, .getfield 11, .getfield 192),
  (15, 3, .getfield 17, .getfield 193),
  (18, 3, .new 9, .new 1),
  (23, 3, .invokevirtual 32, .invokevirtual 10),
  (26, 3, .invokespecial 36, .invokespecial 2),
  (31, 3, .getfield 11, .getfield 192),
  (35, 3, .getfield 17, .getfield 193),
  (40, 3, .invokevirtual 39, .invokevirtual 59),
  (45, 3, .getfield 17, .getfield 193),
  (50, 3, .putfield 17, .putfield 193),
  (55, 3, .getfield 21, .getfield 194),
  (68, 3, .putfield 21, .putfield 194),
  (72, 3, .getfield 17, .getfield 193)]
def cd_64 : List (Nat × Nat × Instr × Instr) := sp_64 ++ lk_64
def sp_65 : List (Nat × Nat × Instr × Instr) := [(0, 1, .aload_n 0, .aload 0),
  (7, 1, .istore_n 1, .istore 1),
  (8, 1, .iload_n 1, .iload 1),
  (9, 3, .ifCond .eq 8, .ifCond .eq 17),
  (12, 2, .bipush (-2), .iconst (-2)),
  (14, 3, .goto 5, .goto 19),
  (17, 2, .bipush (-3), .iconst (-3)),
  (19, 1, .istore_n 2, .istore 2),
  (20, 1, .iload_n 1, .iload 1),
  (21, 3, .ifCond .eq 52, .ifCond .eq 73),
  (24, 1, .aload_n 0, .aload 0),
  (31, 3, .ifCond .ne 42, .ifCond .ne 73),
  (34, 1, .aload_n 0, .aload 0),
  (38, 1, .aload_n 0, .aload 0),
  (42, 1, .aload_n 0, .aload 0),
  (49, 1, .aload_n 0, .aload 0),
  (50, 1, .aload_n 0, .aload 0),
  (63, 1, .aload_n 0, .aload 0),
  (67, 1, .aload_n 0, .aload 0),
  (68, 1, .iconst 1, .iconst 1),
  (72, 1, .istore_n 2, .istore 2),
  (73, 1, .aload_n 0, .aload 0),
  (80, 1, .iload_n 2, .iload 2),
  (81, 1, .ireturn, .ireturn)]
def lk_65 : List (Nat × Nat × Instr × Instr) := [(1, 3, .getfield 14, .getfield 0),
  (4, 3, .invokevirtual 136, .invokevirtual 66),
  (25, 3, .getfield 53, .getfield 7),
  (28, 3, .invokevirtual 114, .invokevirtual 32),
  (35, 3, .getfield 37, .getfield 3),
  (39, 3, .getfield 21, .getfield 1),
  (43, 3, .getfield 41, .getfield 4),
  (46, 3, .invokevirtual 118, .invokevirtual 33),
  (51, 3, .getfield 37, .getfield 3),
  (54, 3, .invokevirtual 102, .invokevirtual 26),
  (57, 3, .invokevirtual 126, .invokevirtual 57),
  (60, 3, .putfield 57, .putfield 9),
  (64, 3, .invokevirtual 139, .invokevirtual 67),
  (69, 3, .invokevirtual 132, .invokevirtual 61),
  (74, 3, .getfield 14, .getfield 0),
  (77, 3, .invokevirtual 99, .invokevirtual 18)]
def cd_65 : List (Nat × Nat × Instr × Instr) := sp_65 ++ lk_65
def sp_66 : List (Nat × Nat × Instr × Instr) := [(0, 1, .iconst 0, .iconst 0),
  (1, 1, .istore_n 1, .istore 1),
  (2, 1, .iload_n 1, .iload 1),
  (3, 1, .aload_n 0, .aload 0),
  (7, 3, .if_icmp .ge 42, .if_icmp .ge 49),
  (10, 1, .aload_n 0, .aload 0),
  (14, 1, .iload_n 1, .iload 1),
  (15, 1, .caload, .caload),
  (16, 1, .istore_n 2, .istore 2),
  (17, 1, .iload_n 2, .iload 2),
  (18, 2, .bipush 65, .iconst 65),
  (20, 3, .if_icmp .lt 9, .if_icmp .lt 29),
  (23, 1, .iload_n 2, .iload 2),
  (24, 2, .bipush 90, .iconst 90),
  (26, 3, .if_icmp .le 17, .if_icmp .le 43),
  (29, 1, .iload_n 2, .iload 2),
  (30, 2, .bipush 97, .iconst 97),
  (32, 3, .if_icmp .lt 9, .if_icmp .lt 41),
  (35, 1, .iload_n 2, .iload 2),
  (36, 2, .bipush 122, .iconst 122),
  (38, 3, .if_icmp .le 5, .if_icmp .le 43),
  (41, 1, .iconst 0, .iconst 0),
  (42, 1, .ireturn, .ireturn),
  (43, 3, .iinc 1 1, .iinc 1 1),
  (46, 3, .goto (-44), .goto 2),
  (49, 1, .aload_n 0, .aload 0),
  (53, 3, .ifCond .le 7, .ifCond .le 60),
  (56, 1, .iconst 1, .iconst 1),
  (57, 3, .goto 4, .goto 61),
  (60, 1, .iconst 0, .iconst 0),
  (61, 1, .ireturn, .ireturn)]
def lk_66 : List (Nat × Nat × Instr × Instr) := [(4, 3, .getfield 15, .getfield 33),
  (11, 3, .getfield 9, .getfield 32),
  (50, 3, .getfield 15, .getfield 33)]
def cd_66 : List (Nat × Nat × Instr × Instr) := sp_66 ++ lk_66
def sp_67 : List (Nat × Nat × Instr × Instr) := [(0, 1, .aload_n 0, .aload 0),
  (7, 1, .aload_n 0, .aload 0),
  (16, 1, .aload_n 0, .aload 0),
  (20, 1, .aload_n 0, .aload 0),
  (27, 1, .aload_n 0, .aload 0),
  (36, 1, .aload_n 0, .aload 0),
  (40, 1, .aload_n 0, .aload 0),
  (47, 1, .aload_n 0, .aload 0),
  (56, 1, .aload_n 0, .aload 0),
  (60, 1, .aload_n 0, .aload 0),
  (67, 1, .aload_n 0, .aload 0),
  (76, 1, .return_, .return_)]
def lk_67 : List (Nat × Nat × Instr × Instr) := [(1, 3, .getfield 47, .getfield 6),
  (4, 3, .invokevirtual 99, .invokevirtual 18),
  (8, 3, .getfield 47, .getfield 6),
  (11, 2, .ldc 214, .ldc 78),
  (13, 3, .invokevirtual 180, .invokevirtual 35),
  (17, 3, .getfield 47, .getfield 6),
  (21, 3, .getfield 41, .getfield 4),
  (24, 3, .invokevirtual 175, .invokevirtual 59),
  (28, 3, .getfield 47, .getfield 6),
  (31, 2, .ldc 216, .ldc 80),
  (33, 3, .invokevirtual 180, .invokevirtual 35),
  (37, 3, .getfield 47, .getfield 6),
  (41, 3, .getfield 14, .getfield 0),
  (44, 3, .invokevirtual 175, .invokevirtual 59),
  (48, 3, .getfield 47, .getfield 6),
  (51, 2, .ldc 218, .ldc 82),
  (53, 3, .invokevirtual 180, .invokevirtual 35),
  (57, 3, .getfield 47, .getfield 6),
  (61, 3, .getfield 14, .getfield 0),
  (64, 3, .invokevirtual 175, .invokevirtual 59),
  (68, 3, .getfield 47, .getfield 6),
  (71, 2, .ldc 220, .ldc 84),
  (73, 3, .invokevirtual 180, .invokevirtual 35)]
def cd_67 : List (Nat × Nat × Instr × Instr) := sp_67 ++ lk_67
def sp_68 : List (Nat × Nat × Instr × Instr) := [(0, 1, .aload_n 0, .aload 0),
  (4, 1, .ireturn, .ireturn)]
def lk_68 : List (Nat × Nat × Instr × Instr) := [(1, 3, .getfield 57, .getfield 9)]
def cd_68 : List (Nat × Nat × Instr × Instr) := sp_68 ++ lk_68
def sp_69 : List (Nat × Nat × Instr × Instr) := [(0, 1, .aload_n 0, .aload 0),
  (7, 1, .istore_n 1, .istore 1),
  (8, 1, .aload_n 0, .aload 0),
  (15, 1, .iload_n 1, .iload 1),
  (16, 1, .ireturn, .ireturn)]
def lk_69 : List (Nat × Nat × Instr × Instr) := [(1, 3, .getfield 53, .getfield 7),
  (4, 3, .invokevirtual 142, .invokevirtual 70),
  (9, 3, .getfield 53, .getfield 7),
  (12, 3, .invokevirtual 143, .invokevirtual 71)]
def cd_69 : List (Nat × Nat × Instr × Instr) := sp_69 ++ lk_69
def sp_70 : List (Nat × Nat × Instr × Instr) := [(0, 1, .aload_n 0, .aload 0),
  (4, 1, .ireturn, .ireturn)]
def lk_70 : List (Nat × Nat × Instr × Instr) := [(1, 3, .getfield 17, .getfield 193)]
def cd_70 : List (Nat × Nat × Instr × Instr) := sp_70 ++ lk_70
def sp_71 : List (Nat × Nat × Instr × Instr) := [(0, 1, .aload_n 0, .aload 0),
  (1, 1, .iconst 0, .iconst 0),
  (5, 1, .aload_n 0, .aload 0),
  (6, 1, .iconst 0, .iconst 0),
  (10, 1, .return_, .return_)]
def lk_71 : List (Nat × Nat × Instr × Instr) := [(2, 3, .putfield 17, .putfield 193),
  (7, 3, .putfield 21, .putfield 194)]
def cd_71 : List (Nat × Nat × Instr × Instr) := sp_71 ++ lk_71
def sp_72 : List (Nat × Nat × Instr × Instr) := [(0, 1, .aload_n 0, .aload 0),
  (4, 1, .aload_n 0, .aload 0),
  (11, 1, .aload_n 0, .aload 0),
  (18, 1, .ireturn, .ireturn)]
def lk_72 : List (Nat × Nat × Instr × Instr) := [(1, 3, .getfield 73, .getfield 8),
  (5, 3, .getfield 53, .getfield 7),
  (8, 3, .invokevirtual 144, .invokevirtual 73),
  (12, 3, .getfield 73, .getfield 8),
  (15, 3, .invokevirtual 148, .invokevirtual 82)]
def cd_72 : List (Nat × Nat × Instr × Instr) := sp_72 ++ lk_72
def sp_73 : List (Nat × Nat × Instr × Instr) := [(0, 1, .aload_n 0, .aload 0),
  (4, 1, .aload_n 0, .aload 0),
  (10, 1, .iconst 0, .iconst 0),
  (11, 1, .istore_n 2, .istore 2),
  (12, 1, .iload_n 2, .iload 2),
  (13, 1, .aload_n 1, .aload 1),
  (17, 3, .if_icmp .ge 62, .if_icmp .ge 79),
  (20, 1, .iload_n 2, .iload 2),
  (21, 3, .ifCond .le 7, .ifCond .le 28),
  (24, 1, .aload_n 0, .aload 0),
  (28, 1, .aload_n 0, .aload 0),
  (34, 1, .aload_n 0, .aload 0),
  (43, 1, .aload_n 0, .aload 0),
  (47, 1, .iload_n 2, .iload 2),
  (48, 1, .i2l, .i2l),
  (52, 1, .aload_n 0, .aload 0),
  (58, 1, .aload_n 0, .aload 0),
  (59, 1, .aload_n 1, .aload 1),
  (60, 1, .iload_n 2, .iload 2),
  (67, 1, .aload_n 0, .aload 0),
  (73, 3, .iinc 2 1, .iinc 2 1),
  (76, 3, .goto (-64), .goto 12),
  (79, 1, .aload_n 0, .aload 0),
  (85, 1, .return_, .return_)]
def lk_73 : List (Nat × Nat × Instr × Instr) := [(1, 3, .invokevirtual 45, .invokevirtual 74),
  (5, 2, .ldc 48, .ldc 86),
  (7, 3, .invokevirtual 50, .invokevirtual 75),
  (14, 3, .invokevirtual 54, .invokevirtual 70),
  (25, 3, .invokevirtual 59, .invokevirtual 76),
  (29, 2, .ldc 62, .ldc 88),
  (31, 3, .invokevirtual 50, .invokevirtual 75),
  (35, 3, .getfield 14, .getfield 225),
  (38, 2, .ldc 64, .ldc 90),
  (40, 3, .invokevirtual 66, .invokevirtual 35),
  (44, 3, .getfield 14, .getfield 225),
  (49, 3, .invokevirtual 69, .invokevirtual 47),
  (53, 2, .ldc 73, .ldc 92),
  (55, 3, .invokevirtual 50, .invokevirtual 75),
  (61, 3, .invokevirtual 75, .invokevirtual 77),
  (64, 3, .invokevirtual 79, .invokevirtual 78),
  (68, 2, .ldc 83, .ldc 94),
  (70, 3, .invokevirtual 50, .invokevirtual 75),
  (80, 2, .ldc 85, .ldc 96),
  (82, 3, .invokevirtual 50, .invokevirtual 75)]
def cd_73 : List (Nat × Nat × Instr × Instr) := sp_73 ++ lk_73
def sp_74 : List (Nat × Nat × Instr × Instr) := [(0, 1, .aload_n 0, .aload 0),
  (7, 1, .aload_n 0, .aload 0),
  (8, 1, .iconst 0, .iconst 0),
  (12, 1, .aload_n 0, .aload 0),
  (13, 1, .iconst 0, .iconst 0),
  (17, 1, .aload_n 0, .aload 0),
  (18, 1, .iconst 0, .iconst 0),
  (22, 1, .aload_n 0, .aload 0),
  (23, 1, .iconst 0, .iconst 0),
  (27, 1, .return_, .return_)]
def lk_74 : List (Nat × Nat × Instr × Instr) := [(1, 3, .getfield 14, .getfield 225),
  (4, 3, .invokevirtual 87, .invokevirtual 18),
  (9, 3, .putfield 32, .putfield 227),
  (14, 3, .putfield 88, .putfield 228),
  (19, 3, .putfield 35, .putfield 229),
  (24, 3, .putfield 38, .putfield 230)]
def cd_74 : List (Nat × Nat × Instr × Instr) := sp_74 ++ lk_74
def sp_75 : List (Nat × Nat × Instr × Instr) := [(0, 1, .aload_n 0, .aload 0),
  (4, 1, .aload_n 1, .aload 1),
  (8, 1, .aload_n 0, .aload 0),
  (12, 1, .return_, .return_)]
def lk_75 : List (Nat × Nat × Instr × Instr) := [(1, 3, .getfield 14, .getfield 225),
  (5, 3, .invokevirtual 66, .invokevirtual 35),
  (9, 3, .invokevirtual 59, .invokevirtual 76)]
def cd_75 : List (Nat × Nat × Instr × Instr) := sp_75 ++ lk_75
def sp_76 : List (Nat × Nat × Instr × Instr) := [(0, 1, .aload_n 0, .aload 0),
  (4, 1, .aload_n 0, .aload 0),
  (8, 1, .arraylength, .arraylength),
  (9, 3, .if_icmp .ne 31, .if_icmp .ne 40),
  (12, 1, .iconst 2, .iconst 2),
  (13, 1, .aload_n 0, .aload 0),
  (17, 1, .imul, .imul),
  (20, 1, .astore_n 1, .astore 1),
  (21, 1, .aload_n 0, .aload 0),
  (25, 1, .iconst 0, .iconst 0),
  (26, 1, .aload_n 1, .aload 1),
  (27, 1, .iconst 0, .iconst 0),
  (28, 1, .aload_n 0, .aload 0),
  (35, 1, .aload_n 0, .aload 0),
  (36, 1, .aload_n 1, .aload 1),
  (40, 1, .aload_n 0, .aload 0),
  (44, 1, .aload_n 0, .aload 0),
  (48, 1, .aload_n 0, .aload 0),
  (52, 1, .iastore, .iastore),
  (53, 1, .aload_n 0, .aload 0),
  (54, 1, .dup, .dup),
  (58, 1, .iconst 1, .iconst 1),
  (59, 1, .iadd, .iadd),
  (63, 1, .aload_n 0, .aload 0),
  (64, 1, .aload_n 0, .aload 0),
  (68, 1, .aload_n 0, .aload 0),
  (75, 1, .aload_n 0, .aload 0),
  (79, 1, .isub, .isub),
  (86, 1, .aload_n 0, .aload 0),
  (90, 2, .bipush 10, .iconst 10),
  (95, 1, .aload_n 0, .aload 0),
  (96, 1, .aload_n 0, .aload 0),
  (106, 1, .return_, .return_)]
def lk_76 : List (Nat × Nat × Instr × Instr) := [(1, 3, .getfield 32, .getfield 227),
  (5, 3, .getfield 20, .getfield 226),
  (14, 3, .getfield 32, .getfield 227),
  (18, 2, .newarray .int, .newarray .int),
  (22, 3, .getfield 20, .getfield 226),
  (29, 3, .getfield 32, .getfield 227),
  (32, 3, .invokestatic 104, .monitorexit),
  (37, 3, .putfield 20, .putfield 226),
  (41, 3, .getfield 20, .getfield 226),
  (45, 3, .getfield 32, .getfield 227),
  (49, 3, .getfield 88, .getfield 228),
  (55, 3, .getfield 32, .getfield 227),
  (60, 3, .putfield 32, .putfield 227),
  (65, 3, .getfield 35, .getfield 229),
  (69, 3, .getfield 14, .getfield 225),
  (72, 3, .invokevirtual 28, .invokevirtual 10),
  (76, 3, .getfield 88, .getfield 228),
  (80, 3, .invokestatic 110, .dadd),
  (83, 3, .putfield 35, .putfield 229),
  (87, 3, .getfield 14, .getfield 225),
  (92, 3, .invokevirtual 116, .invokevirtual 11),
  (97, 3, .getfield 14, .getfield 225),
  (100, 3, .invokevirtual 28, .invokevirtual 10),
  (103, 3, .putfield 88, .putfield 228)]
def cd_76 : List (Nat × Nat × Instr × Instr) := sp_76 ++ lk_76
def sp_77 : List (Nat × Nat × Instr × Instr) := [(0, 1, .aload_n 0, .aload 0),
  (4, 1, .iload_n 1, .iload 1),
  (5, 1, .aaload, .aaload),
  (6, 1, .areturn, .areturn)]
def lk_77 : List (Nat × Nat × Instr × Instr) := [(1, 3, .getfield 11, .getfield 192)]
def cd_77 : List (Nat × Nat × Instr × Instr) := sp_77 ++ lk_77
def sp_78 : List (Nat × Nat × Instr × Instr) := [(0, 1, .iconst 0, .iconst 0),
  (1, 1, .istore_n 2, .istore 2),
  (2, 1, .iconst 0, .iconst 0),
  (3, 1, .istore_n 3, .istore 3),
  (4, 1, .iload_n 3, .iload 3),
  (5, 1, .aload_n 1, .aload 1),
  (9, 3, .if_icmp .ge 30, .if_icmp .ge 39),
  (12, 1, .aload_n 1, .aload 1),
  (13, 1, .iload_n 3, .iload 3),
  (17, 2, .bipush 10, .iconst 10),
  (19, 3, .if_icmp .ne 14, .if_icmp .ne 33),
  (22, 1, .aload_n 0, .aload 0),
  (23, 1, .aload_n 1, .aload 1),
  (24, 1, .iload_n 2, .iload 2),
  (25, 1, .iload_n 3, .iload 3),
  (29, 1, .iload_n 3, .iload 3),
  (30, 1, .iconst 1, .iconst 1),
  (31, 1, .iadd, .iadd),
  (32, 1, .istore_n 2, .istore 2),
  (33, 3, .iinc 3 1, .iinc 3 1),
  (36, 3, .goto (-32), .goto 4),
  (39, 1, .return_, .return_)]
def lk_78 : List (Nat × Nat × Instr × Instr) := [(6, 3, .invokevirtual 28, .invokevirtual 10),
  (14, 3, .invokevirtual 41, .invokevirtual 16),
  (26, 3, .invokevirtual 91, .invokevirtual 79)]
def cd_78 : List (Nat × Nat × Instr × Instr) := sp_78 ++ lk_78
def sp_79 : List (Nat × Nat × Instr × Instr) := [(0, 1, .iload_n 2, .iload 2),
  (1, 2, .istore 4, .istore 4),
  (3, 2, .iload 4, .iload 4),
  (5, 1, .iload_n 3, .iload 3),
  (6, 3, .if_icmp .ge 20, .if_icmp .ge 26),
  (9, 1, .aload_n 1, .aload 1),
  (10, 2, .iload 4, .iload 4),
  (15, 2, .bipush 32, .iconst 32),
  (17, 3, .if_icmp .ne 9, .if_icmp .ne 26),
  (20, 3, .iinc 4 1, .iinc 4 1),
  (23, 3, .goto (-20), .goto 3),
  (26, 2, .bipush 8, .iconst 8),
  (28, 2, .iload 4, .iload 4),
  (30, 1, .iadd, .iadd),
  (31, 1, .iload_n 2, .iload 2),
  (32, 1, .isub, .isub),
  (33, 2, .istore 5, .istore 5),
  (35, 2, .iload 5, .iload 5),
  (37, 2, .istore 6, .istore 6),
  (39, 2, .iload 4, .iload 4),
  (41, 1, .iload_n 3, .iload 3),
  (42, 3, .if_icmp .ge 96, .if_icmp .ge 138),
  (45, 2, .iload 6, .iload 6),
  (47, 1, .iload_n 3, .iload 3),
  (48, 1, .iadd, .iadd),
  (49, 2, .iload 4, .iload 4),
  (51, 1, .isub, .isub),
  (52, 1, .aload_n 0, .aload 0),
  (56, 3, .if_icmp .le 82, .if_icmp .le 138),
  (59, 1, .aload_n 1, .aload 1),
  (60, 2, .iload 4, .iload 4),
  (62, 1, .iload_n 3, .iload 3),
  (63, 1, .aload_n 0, .aload 0),
  (67, 2, .iload 6, .iload 6),
  (69, 1, .isub, .isub),
  (73, 2, .istore 7, .istore 7),
  (75, 2, .iload 7, .iload 7),
  (77, 2, .iload 4, .iload 4),
  (79, 3, .if_icmp .gt 6, .if_icmp .gt 85),
  (82, 3, .goto 56, .goto 138),
  (85, 1, .aload_n 0, .aload 0),
  (89, 2, .iload 6, .iload 6),
  (94, 1, .aload_n 0, .aload 0),
  (98, 1, .aload_n 1, .aload 1),
  (99, 2, .iload 4, .iload 4),
  (101, 2, .iload 7, .iload 7),
  (103, 1, .iconst 1, .iconst 1),
  (104, 1, .iadd, .iadd),
  (108, 1, .aload_n 0, .aload 0),
  (112, 1, .aload_n 0, .aload 0),
  (113, 1, .dup, .dup),
  (117, 1, .iconst 1, .iconst 1),
  (118, 1, .iadd, .iadd),
  (122, 2, .iload 7, .iload 7),
  (124, 1, .iconst 2, .iconst 2),
  (125, 1, .iadd, .iadd),
  (126, 2, .istore 4, .istore 4),
  (128, 2, .iload 5, .iload 5),
  (130, 2, .bipush 8, .iconst 8),
  (132, 1, .iadd, .iadd),
  (133, 2, .istore 6, .istore 6),
  (135, 3, .goto (-96), .goto 39),
  (138, 1, .aload_n 0, .aload 0),
  (142, 2, .iload 6, .iload 6),
  (147, 1, .aload_n 0, .aload 0),
  (151, 1, .aload_n 1, .aload 1),
  (152, 2, .iload 4, .iload 4),
  (154, 1, .iload_n 3, .iload 3),
  (158, 1, .aload_n 0, .aload 0),
  (162, 1, .return_, .return_)]
def lk_79 : List (Nat × Nat × Instr × Instr) := [(12, 3, .invokevirtual 41, .invokevirtual 16),
  (53, 3, .getfield 24, .getfield 224),
  (64, 3, .getfield 24, .getfield 224),
  (70, 3, .invokestatic 95, .invokestatic 80),
  (86, 3, .getfield 14, .getfield 225),
  (91, 3, .invokevirtual 99, .invokevirtual 81),
  (95, 3, .getfield 14, .getfield 225),
  (105, 3, .invokevirtual 102, .invokevirtual 60),
  (109, 3, .invokevirtual 59, .invokevirtual 76),
  (114, 3, .getfield 38, .getfield 230),
  (119, 3, .putfield 38, .putfield 230),
  (139, 3, .getfield 14, .getfield 225),
  (144, 3, .invokevirtual 99, .invokevirtual 81),
  (148, 3, .getfield 14, .getfield 225),
  (155, 3, .invokevirtual 102, .invokevirtual 60),
  (159, 3, .invokevirtual 59, .invokevirtual 76)]
def cd_79 : List (Nat × Nat × Instr × Instr) := sp_79 ++ lk_79
def sp_80 : List (Nat × Nat × Instr × Instr) := [(0, 1, .iconst (-1), .iconst (-1)),
  (1, 2, .istore 4, .istore 4),
  (3, 1, .iconst 0, .iconst 0),
  (4, 2, .istore 5, .istore 5),
  (6, 1, .iload_n 1, .iload 1),
  (7, 2, .istore 6, .istore 6),
  (9, 2, .iload 6, .iload 6),
  (11, 1, .iload_n 2, .iload 2),
  (12, 1, .iconst 1, .iconst 1),
  (13, 1, .isub, .isub),
  (14, 3, .if_icmp .ge 101, .if_icmp .ge 115),
  (17, 2, .iload 6, .iload 6),
  (19, 1, .iload_n 1, .iload 1),
  (20, 1, .iload_n 3, .iload 3),
  (21, 1, .iadd, .iadd),
  (22, 3, .if_icmp .ge 93, .if_icmp .ge 115),
  (25, 1, .aload_n 0, .aload 0),
  (26, 2, .iload 6, .iload 6),
  (31, 2, .istore 7, .istore 7),
  (33, 2, .iload 5, .iload 5),
  (35, 3, .ifCond .eq 29, .ifCond .eq 64),
  (38, 2, .iload 7, .iload 7),
  (40, 2, .bipush 92, .iconst 92),
  (42, 3, .if_icmp .ne 9, .if_icmp .ne 51),
  (45, 3, .iinc 6 1, .iinc 6 1),
  (48, 3, .goto 61, .goto 109),
  (51, 2, .iload 7, .iload 7),
  (53, 2, .iload 5, .iload 5),
  (55, 3, .if_icmp .ne 54, .if_icmp .ne 109),
  (58, 1, .iconst 0, .iconst 0),
  (59, 2, .istore 5, .istore 5),
  (61, 3, .goto 48, .goto 109),
  (64, 2, .iload 7, .iload 7),
  (66, 2, .bipush 39, .iconst 39),
  (68, 3, .if_icmp .eq 10, .if_icmp .eq 78),
  (71, 2, .iload 7, .iload 7),
  (73, 2, .bipush 34, .iconst 34),
  (75, 3, .if_icmp .ne 10, .if_icmp .ne 85),
  (78, 2, .iload 7, .iload 7),
  (80, 2, .istore 5, .istore 5),
  (82, 3, .goto 27, .goto 109),
  (85, 2, .iload 7, .iload 7),
  (87, 2, .bipush 44, .iconst 44),
  (89, 3, .if_icmp .ne 20, .if_icmp .ne 109),
  (92, 1, .aload_n 0, .aload 0),
  (93, 2, .iload 6, .iload 6),
  (95, 1, .iconst 1, .iconst 1),
  (96, 1, .iadd, .iadd),
  (100, 2, .bipush 32, .iconst 32),
  (102, 3, .if_icmp .ne 7, .if_icmp .ne 109),
  (105, 2, .iload 6, .iload 6),
  (107, 2, .istore 4, .istore 4),
  (109, 3, .iinc 6 1, .iinc 6 1),
  (112, 3, .goto (-103), .goto 9),
  (115, 2, .iload 4, .iload 4),
  (117, 1, .ireturn, .ireturn)]
def lk_80 : List (Nat × Nat × Instr × Instr) := [(28, 3, .invokevirtual 41, .invokevirtual 16),
  (97, 3, .invokevirtual 41, .invokevirtual 16)]
def cd_80 : List (Nat × Nat × Instr × Instr) := sp_80 ++ lk_80
def sp_81 : List (Nat × Nat × Instr × Instr) := [(0, 1, .iconst 0, .iconst 0),
  (1, 1, .istore_n 2, .istore 2),
  (2, 1, .iload_n 2, .iload 2),
  (3, 1, .iload_n 1, .iload 1),
  (4, 3, .if_icmp .ge 15, .if_icmp .ge 19),
  (7, 1, .aload_n 0, .aload 0),
  (8, 2, .bipush 32, .iconst 32),
  (13, 3, .iinc 2 1, .iinc 2 1),
  (16, 3, .goto (-14), .goto 2),
  (19, 1, .return_, .return_)]
def lk_81 : List (Nat × Nat × Instr × Instr) := [(10, 3, .invokevirtual 34, .invokevirtual 11)]
def cd_81 : List (Nat × Nat × Instr × Instr) := sp_81 ++ lk_81
def sp_82 : List (Nat × Nat × Instr × Instr) := [(0, 1, .aload_n 0, .aload 0),
  (7, 1, .ireturn, .ireturn)]
def lk_82 : List (Nat × Nat × Instr × Instr) := [(1, 3, .getfield 14, .getfield 225),
  (4, 3, .invokevirtual 28, .invokevirtual 10)]
def cd_82 : List (Nat × Nat × Instr × Instr) := sp_82 ++ lk_82
def sp_83 : List (Nat × Nat × Instr × Instr) := [(0, 1, .aload_n 0, .aload 0),
  (4, 1, .iload_n 1, .iload 1),
  (8, 1, .ireturn, .ireturn)]
def lk_83 : List (Nat × Nat × Instr × Instr) := [(1, 3, .getfield 73, .getfield 8),
  (5, 3, .invokevirtual 149, .invokevirtual 84)]
def cd_83 : List (Nat × Nat × Instr × Instr) := sp_83 ++ lk_83
def sp_84 : List (Nat × Nat × Instr × Instr) := [(0, 1, .aload_n 0, .aload 0),
  (4, 1, .iload_n 1, .iload 1),
  (8, 1, .ireturn, .ireturn)]
def lk_84 : List (Nat × Nat × Instr × Instr) := [(1, 3, .getfield 14, .getfield 225),
  (5, 3, .invokevirtual 41, .invokevirtual 16)]
def cd_84 : List (Nat × Nat × Instr × Instr) := sp_84 ++ lk_84
def sp_85 : List (Nat × Nat × Instr × Instr) := [(0, 1, .aload_n 0, .aload 0),
  (4, 1, .iload_n 1, .iload 1),
  (8, 1, .ireturn, .ireturn)]
def lk_85 : List (Nat × Nat × Instr × Instr) := [(1, 3, .getfield 73, .getfield 8),
  (5, 3, .invokevirtual 153, .invokevirtual 86)]
def cd_85 : List (Nat × Nat × Instr × Instr) := sp_85 ++ lk_85
def sp_86 : List (Nat × Nat × Instr × Instr) := [(0, 1, .iload_n 1, .iload 1),
  (1, 3, .ifCond .lt 20, .ifCond .lt 21),
  (4, 1, .iload_n 1, .iload 1),
  (5, 1, .aload_n 0, .aload 0),
  (9, 3, .if_icmp .ge 12, .if_icmp .ge 21),
  (12, 1, .aload_n 0, .aload 0),
  (16, 1, .iload_n 1, .iload 1),
  (17, 1, .iaload, .iaload),
  (18, 3, .goto 4, .goto 22),
  (21, 1, .iconst (-1), .iconst (-1)),
  (22, 1, .ireturn, .ireturn)]
def lk_86 : List (Nat × Nat × Instr × Instr) := [(6, 3, .getfield 32, .getfield 227),
  (13, 3, .getfield 20, .getfield 226)]
def cd_86 : List (Nat × Nat × Instr × Instr) := sp_86 ++ lk_86
def sp_87 : List (Nat × Nat × Instr × Instr) := [(0, 1, .iload_n 1, .iload 1),
  (1, 47, .tableswitch 114 0 7 #[47, 55, 63, 74, 82, 90, 98, 106], .lookupswitch 115 #[(0, 48), (1, 56), (2, 64), (3, 75), (4, 83), (5, 91), (6, 99), (7, 107)]),
  (48, 1, .aload_n 0, .aload 0),
  (55, 1, .ireturn, .ireturn),
  (56, 1, .aload_n 0, .aload 0),
  (63, 1, .ireturn, .ireturn),
  (64, 1, .aload_n 0, .aload 0),
  (74, 1, .ireturn, .ireturn),
  (75, 1, .aload_n 0, .aload 0),
  (82, 1, .ireturn, .ireturn),
  (83, 1, .aload_n 0, .aload 0),
  (90, 1, .ireturn, .ireturn),
  (91, 1, .aload_n 0, .aload 0),
  (98, 1, .ireturn, .ireturn),
  (99, 1, .aload_n 0, .aload 0),
  (106, 1, .ireturn, .ireturn),
  (107, 1, .aload_n 0, .aload 0),
  (114, 1, .ireturn, .ireturn),
  (115, 1, .iconst (-1), .iconst (-1)),
  (116, 1, .ireturn, .ireturn)]
def lk_87 : List (Nat × Nat × Instr × Instr) := [(49, 3, .getfield 53, .getfield 7),
  (52, 3, .invokevirtual 142, .invokevirtual 70),
  (57, 3, .getfield 14, .getfield 0),
  (60, 3, .invokevirtual 77, .invokevirtual 10),
  (65, 3, .getfield 37, .getfield 3),
  (68, 3, .invokevirtual 102, .invokevirtual 26),
  (71, 3, .invokevirtual 112, .invokevirtual 28),
  (76, 3, .getfield 73, .getfield 8),
  (79, 3, .invokevirtual 148, .invokevirtual 82),
  (84, 3, .getfield 73, .getfield 8),
  (87, 3, .invokevirtual 156, .invokevirtual 88),
  (92, 3, .getfield 73, .getfield 8),
  (95, 3, .invokevirtual 159, .invokevirtual 89),
  (100, 3, .getfield 73, .getfield 8),
  (103, 3, .invokevirtual 162, .invokevirtual 90),
  (108, 3, .getfield 53, .getfield 7),
  (111, 3, .invokevirtual 165, .invokevirtual 91)]
def cd_87 : List (Nat × Nat × Instr × Instr) := sp_87 ++ lk_87
def sp_88 : List (Nat × Nat × Instr × Instr) := [(0, 1, .aload_n 0, .aload 0),
  (4, 1, .ireturn, .ireturn)]
def lk_88 : List (Nat × Nat × Instr × Instr) := [(1, 3, .getfield 32, .getfield 227)]
def cd_88 : List (Nat × Nat × Instr × Instr) := sp_88 ++ lk_88
def sp_89 : List (Nat × Nat × Instr × Instr) := [(0, 1, .aload_n 0, .aload 0),
  (4, 1, .ireturn, .ireturn)]
def lk_89 : List (Nat × Nat × Instr × Instr) := [(1, 3, .getfield 35, .getfield 229)]
def cd_89 : List (Nat × Nat × Instr × Instr) := sp_89 ++ lk_89
def sp_90 : List (Nat × Nat × Instr × Instr) := [(0, 1, .aload_n 0, .aload 0),
  (4, 1, .ireturn, .ireturn)]
def lk_90 : List (Nat × Nat × Instr × Instr) := [(1, 3, .getfield 38, .getfield 230)]
def cd_90 : List (Nat × Nat × Instr × Instr) := sp_90 ++ lk_90
def sp_91 : List (Nat × Nat × Instr × Instr) := [(0, 1, .aload_n 0, .aload 0),
  (4, 1, .ireturn, .ireturn)]
def lk_91 : List (Nat × Nat × Instr × Instr) := [(1, 3, .getfield 21, .getfield 194)]
def cd_91 : List (Nat × Nat × Instr × Instr) := sp_91 ++ lk_91
def sp_92 : List (Nat × Nat × Instr × Instr) := [(0, 1, .iload_n 1, .iload 1),
  (1, 1, .aload_n 0, .aload 0),
  (2, 1, .arraylength, .arraylength),
  (3, 3, .if_icmp .ge 9, .if_icmp .ge 12),
  (6, 1, .aload_n 0, .aload 0),
  (7, 1, .iload_n 1, .iload 1),
  (8, 1, .iaload, .iaload),
  (9, 3, .goto 4, .goto 13),
  (12, 1, .iconst 0, .iconst 0),
  (13, 1, .ireturn, .ireturn)]
def lk_92 : List (Nat × Nat × Instr × Instr) := []
def cd_92 : List (Nat × Nat × Instr × Instr) := sp_92 ++ lk_92
def sp_93 : List (Nat × Nat × Instr × Instr) := [(0, 1, .aload_n 0, .aload 0),
  (4, 1, .aload_n 0, .aload 0),
  (5, 1, .iconst 0, .iconst 0),
  (9, 1, .aload_n 0, .aload 0),
  (10, 1, .iconst 0, .iconst 0),
  (14, 1, .aload_n 0, .aload 0),
  (15, 1, .iconst 0, .iconst 0),
  (19, 1, .aload_n 0, .aload 0),
  (20, 1, .iconst 0, .iconst 0),
  (24, 1, .aload_n 0, .aload 0),
  (25, 1, .iconst (-1), .iconst (-1)),
  (29, 1, .aload_n 0, .aload 0),
  (30, 1, .iconst 0, .iconst 0),
  (34, 1, .aload_n 0, .aload 0),
  (35, 1, .iconst 0, .iconst 0),
  (39, 1, .aload_n 0, .aload 0),
  (40, 1, .iconst 0, .iconst 0),
  (44, 1, .aload_n 0, .aload 0),
  (45, 1, .iconst 0, .iconst 0),
  (49, 1, .aload_n 0, .aload 0),
  (50, 2, .bipush 40, .iconst 40),
  (57, 1, .aload_n 0, .aload 0),
  (58, 3, .sipush 240, .iconst 240),
  (66, 1, .aload_n 0, .aload 0),
  (67, 2, .bipush 6, .iconst 6),
  (74, 1, .aload_n 0, .aload 0),
  (75, 2, .bipush 60, .iconst 60),
  (82, 1, .aload_n 0, .aload 0),
  (83, 3, .sipush 1500, .iconst 1500),
  (91, 1, .aload_n 0, .aload 0),
  (92, 3, .sipush 4200, .iconst 4200),
  (100, 1, .aload_n 0, .aload 0),
  (101, 2, .bipush 20, .iconst 20),
  (108, 1, .aload_n 0, .aload 0),
  (109, 2, .bipush 20, .iconst 20),
  (116, 1, .aload_n 0, .aload 0),
  (117, 3, .sipush 1300, .iconst 1300),
  (125, 1, .aload_n 0, .aload 0),
  (126, 1, .iconst 4, .iconst 4),
  (132, 1, .aload_n 0, .aload 0),
  (133, 1, .iconst 0, .iconst 0),
  (137, 1, .aload_n 0, .aload 0),
  (138, 1, .iconst 0, .iconst 0),
  (142, 1, .aload_n 0, .aload 0),
  (143, 3, .sipush 400, .iconst 400),
  (151, 1, .aload_n 0, .aload 0),
  (152, 1, .iconst 0, .iconst 0),
  (156, 1, .aload_n 0, .aload 0),
  (157, 1, .iconst 0, .iconst 0),
  (161, 1, .aload_n 0, .aload 0),
  (162, 1, .iload_n 1, .iload 1),
  (163, 2, .bipush 40, .iconst 40),
  (165, 3, .if_icmp .ge 8, .if_icmp .ge 173),
  (168, 2, .bipush 40, .iconst 40),
  (170, 3, .goto 15, .goto 185),
  (173, 1, .iload_n 1, .iload 1),
  (174, 2, .bipush 120, .iconst 120),
  (176, 3, .if_icmp .le 8, .if_icmp .le 184),
  (179, 2, .bipush 120, .iconst 120),
  (181, 3, .goto 4, .goto 185),
  (184, 1, .iload_n 1, .iload 1),
  (188, 1, .aload_n 0, .aload 0),
  (192, 3, .sipush 200, .iconst 200),
  (195, 2, .bipush 86, .iconst 86),
  (197, 1, .castore, .castore),
  (198, 1, .aload_n 0, .aload 0),
  (202, 1, .iconst 5, .iconst 5),
  (203, 1, .iconst 1, .iconst 1),
  (204, 1, .iastore, .iastore),
  (205, 1, .return_, .return_)]
def lk_93 : List (Nat × Nat × Instr × Instr) := [(1, 3, .invokespecial 1, .monitorenter),
  (6, 3, .putfield 7, .putfield 257),
  (11, 3, .putfield 13, .putfield 258),
  (16, 3, .putfield 16, .putfield 259),
  (21, 3, .putfield 19, .putfield 260),
  (26, 3, .putfield 22, .putfield 261),
  (31, 3, .putfield 25, .putfield 262),
  (36, 3, .putfield 28, .putfield 263),
  (41, 3, .putfield 31, .putfield 264),
  (46, 3, .putfield 34, .putfield 265),
  (52, 2, .newarray .char, .newarray .char),
  (54, 3, .putfield 37, .putfield 266),
  (61, 2, .newarray .char, .newarray .char),
  (63, 3, .putfield 41, .putfield 267),
  (69, 2, .newarray .int, .newarray .int),
  (71, 3, .putfield 44, .putfield 268),
  (77, 2, .newarray .int, .newarray .int),
  (79, 3, .putfield 48, .putfield 269),
  (86, 2, .newarray .int, .newarray .int),
  (88, 3, .putfield 51, .putfield 270),
  (95, 2, .newarray .int, .newarray .int),
  (97, 3, .putfield 54, .putfield 271),
  (103, 2, .newarray .int, .newarray .int),
  (105, 3, .putfield 57, .putfield 272),
  (111, 2, .newarray .boolean, .newarray .boolean),
  (113, 3, .putfield 60, .putfield 273),
  (120, 2, .newarray .char, .newarray .char),
  (122, 3, .putfield 64, .putfield 274),
  (127, 2, .newarray .int, .newarray .int),
  (129, 3, .putfield 67, .putfield 275),
  (134, 3, .putfield 70, .putfield 276),
  (139, 3, .putfield 73, .putfield 277),
  (146, 2, .newarray .int, .newarray .int),
  (148, 3, .putfield 76, .putfield 278),
  (153, 3, .putfield 79, .putfield 279),
  (158, 3, .putfield 82, .putfield 280),
  (185, 3, .putfield 86, .putfield 256),
  (189, 3, .getfield 41, .getfield 267),
  (199, 3, .getfield 44, .getfield 268)]
def cd_93 : List (Nat × Nat × Instr × Instr) := sp_93 ++ lk_93
def sp_94 : List (Nat × Nat × Instr × Instr) := [(0, 1, .iload_n 1, .iload 1),
  (1, 3, .ifCond .lt 9, .ifCond .lt 10),
  (4, 1, .iload_n 1, .iload 1),
  (5, 2, .bipush 127, .iconst 127),
  (7, 3, .if_icmp .le 5, .if_icmp .le 12),
  (10, 1, .iconst (-1), .iconst (-1)),
  (11, 1, .ireturn, .ireturn),
  (12, 1, .aload_n 0, .aload 0),
  (16, 2, .bipush 40, .iconst 40),
  (18, 3, .if_icmp .ne 6, .if_icmp .ne 24),
  (21, 2, .bipush (-2), .iconst (-2)),
  (23, 1, .ireturn, .ireturn),
  (24, 1, .aload_n 0, .aload 0),
  (28, 1, .aload_n 0, .aload 0),
  (32, 1, .iload_n 1, .iload 1),
  (33, 1, .i2c, .i2c),
  (34, 1, .castore, .castore),
  (35, 1, .aload_n 0, .aload 0),
  (36, 1, .dup, .dup),
  (40, 1, .iconst 1, .iconst 1),
  (41, 1, .iadd, .iadd),
  (45, 1, .aload_n 0, .aload 0),
  (49, 1, .ireturn, .ireturn)]
def lk_94 : List (Nat × Nat × Instr × Instr) := [(13, 3, .getfield 7, .getfield 257),
  (25, 3, .getfield 37, .getfield 266),
  (29, 3, .getfield 7, .getfield 257),
  (37, 3, .getfield 7, .getfield 257),
  (42, 3, .putfield 7, .putfield 257),
  (46, 3, .getfield 7, .getfield 257)]
def cd_94 : List (Nat × Nat × Instr × Instr) := sp_94 ++ lk_94
def sp_95 : List (Nat × Nat × Instr × Instr) := [(0, 1, .iload_n 1, .iload 1),
  (1, 3, .ifCond .lt 8, .ifCond .lt 9),
  (4, 1, .iload_n 1, .iload 1),
  (5, 1, .iconst 3, .iconst 3),
  (6, 3, .if_icmp .le 7, .if_icmp .le 13),
  (9, 1, .iconst (-1), .iconst (-1)),
  (10, 3, .goto 8, .goto 18),
  (13, 1, .aload_n 0, .aload 0),
  (14, 1, .iload_n 1, .iload 1),
  (18, 1, .ireturn, .ireturn)]
def lk_95 : List (Nat × Nat × Instr × Instr) := [(15, 3, .invokevirtual 97, .invokevirtual 96)]
def cd_95 : List (Nat × Nat × Instr × Instr) := sp_95 ++ lk_95
def sp_96 : List (Nat × Nat × Instr × Instr) := [(0, 1, .iconst 0, .iconst 0),
  (1, 1, .istore_n 2, .istore 2),
  (2, 1, .iconst 0, .iconst 0),
  (3, 1, .istore_n 3, .istore 3),
  (4, 1, .iload_n 3, .iload 3),
  (5, 3, .ifCond .lt 23, .ifCond .lt 28),
  (8, 1, .iload_n 3, .iload 3),
  (9, 1, .aload_n 0, .aload 0),
  (13, 3, .if_icmp .ge 15, .if_icmp .ge 28),
  (16, 1, .aload_n 0, .aload 0),
  (17, 1, .iload_n 3, .iload 3),
  (21, 1, .istore_n 3, .istore 3),
  (22, 3, .iinc 2 1, .iinc 2 1),
  (25, 3, .goto (-21), .goto 4),
  (28, 1, .aload_n 0, .aload 0),
  (32, 2, .istore 4, .istore 4),
  (34, 1, .aload_n 0, .aload 0),
  (35, 1, .iconst 0, .iconst 0),
  (39, 1, .iload_n 3, .iload 3),
  (40, 3, .ifCond .lt 8, .ifCond .lt 48),
  (43, 1, .iload_n 2, .iload 2),
  (44, 1, .iconst 4, .iconst 4),
  (45, 3, .if_icmp .le 6, .if_icmp .le 51),
  (48, 2, .bipush (-3), .iconst (-3)),
  (50, 1, .ireturn, .ireturn),
  (51, 1, .iconst 0, .iconst 0),
  (52, 2, .istore 5, .istore 5),
  (54, 2, .iload 5, .iload 5),
  (56, 2, .iload 4, .iload 4),
  (58, 3, .if_icmp .ge 28, .if_icmp .ge 86),
  (61, 1, .aload_n 0, .aload 0),
  (65, 1, .iload_n 1, .iload 1),
  (66, 2, .bipush 40, .iconst 40),
  (68, 1, .imul, .imul),
  (69, 2, .iload 5, .iload 5),
  (71, 1, .iadd, .iadd),
  (72, 1, .aload_n 0, .aload 0),
  (76, 2, .iload 5, .iload 5),
  (78, 1, .caload, .caload),
  (79, 1, .castore, .castore),
  (80, 3, .iinc 5 1, .iinc 5 1),
  (83, 3, .goto (-29), .goto 54),
  (86, 1, .aload_n 0, .aload 0),
  (90, 1, .iload_n 1, .iload 1),
  (91, 2, .iload 4, .iload 4),
  (93, 1, .iastore, .iastore),
  (94, 1, .iload_n 2, .iload 2),
  (95, 1, .ireturn, .ireturn)]
def lk_96 : List (Nat × Nat × Instr × Instr) := [(10, 3, .getfield 7, .getfield 257),
  (18, 3, .invokevirtual 93, .invokevirtual 97),
  (29, 3, .getfield 7, .getfield 257),
  (36, 3, .putfield 7, .putfield 257),
  (62, 3, .getfield 41, .getfield 267),
  (73, 3, .getfield 37, .getfield 266),
  (87, 3, .getfield 44, .getfield 268)]
def cd_96 : List (Nat × Nat × Instr × Instr) := sp_96 ++ lk_96
def sp_97 : List (Nat × Nat × Instr × Instr) := [(0, 1, .iload_n 1, .iload 1),
  (1, 1, .istore_n 2, .istore 2),
  (2, 1, .iload_n 2, .iload 2),
  (3, 1, .aload_n 0, .aload 0),
  (7, 3, .if_icmp .ge 20, .if_icmp .ge 27),
  (10, 1, .aload_n 0, .aload 0),
  (14, 1, .iload_n 2, .iload 2),
  (15, 1, .caload, .caload),
  (16, 2, .bipush 91, .iconst 91),
  (18, 3, .if_icmp .ne 9, .if_icmp .ne 27),
  (21, 3, .iinc 2 1, .iinc 2 1),
  (24, 3, .goto (-22), .goto 2),
  (27, 1, .iload_n 2, .iload 2),
  (28, 1, .iload_n 1, .iload 1),
  (29, 1, .isub, .isub),
  (30, 1, .iconst 3, .iconst 3),
  (31, 3, .if_icmp .gt 11, .if_icmp .gt 42),
  (34, 1, .iload_n 2, .iload 2),
  (35, 1, .aload_n 0, .aload 0),
  (39, 3, .if_icmp .lt 5, .if_icmp .lt 44),
  (42, 1, .iconst (-1), .iconst (-1)),
  (43, 1, .ireturn, .ireturn),
  (44, 1, .aload_n 0, .aload 0),
  (48, 1, .iload_n 2, .iload 2),
  (49, 1, .caload, .caload),
  (50, 2, .bipush 79, .iconst 79),
  (52, 3, .if_icmp .ne 47, .if_icmp .ne 99),
  (55, 1, .iload_n 2, .iload 2),
  (56, 1, .iconst 1, .iconst 1),
  (57, 1, .iadd, .iadd),
  (58, 1, .aload_n 0, .aload 0),
  (62, 3, .if_icmp .ge 35, .if_icmp .ge 97),
  (65, 1, .aload_n 0, .aload 0),
  (69, 1, .iload_n 2, .iload 2),
  (70, 1, .iconst 1, .iconst 1),
  (71, 1, .iadd, .iadd),
  (72, 1, .caload, .caload),
  (73, 2, .bipush 48, .iconst 48),
  (75, 3, .if_icmp .lt 22, .if_icmp .lt 97),
  (78, 1, .aload_n 0, .aload 0),
  (82, 1, .iload_n 2, .iload 2),
  (83, 1, .iconst 1, .iconst 1),
  (84, 1, .iadd, .iadd),
  (85, 1, .caload, .caload),
  (86, 2, .bipush 51, .iconst 51),
  (88, 3, .if_icmp .gt 9, .if_icmp .gt 97),
  (91, 1, .iload_n 2, .iload 2),
  (92, 1, .iconst 2, .iconst 2),
  (93, 1, .iadd, .iadd),
  (94, 3, .goto 4, .goto 98),
  (97, 1, .iconst (-1), .iconst (-1)),
  (98, 1, .ireturn, .ireturn),
  (99, 1, .aload_n 0, .aload 0),
  (100, 1, .aload_n 0, .aload 0),
  (104, 1, .iload_n 2, .iload 2),
  (105, 1, .caload, .caload),
  (109, 3, .ifCond .eq 9, .ifCond .eq 118),
  (112, 1, .iload_n 2, .iload 2),
  (113, 1, .iconst 1, .iconst 1),
  (114, 1, .iadd, .iadd),
  (115, 3, .goto 4, .goto 119),
  (118, 1, .iconst (-1), .iconst (-1)),
  (119, 1, .ireturn, .ireturn)]
def lk_97 : List (Nat × Nat × Instr × Instr) := [(4, 3, .getfield 7, .getfield 257),
  (11, 3, .getfield 37, .getfield 266),
  (36, 3, .getfield 7, .getfield 257),
  (45, 3, .getfield 37, .getfield 266),
  (59, 3, .getfield 7, .getfield 257),
  (66, 3, .getfield 37, .getfield 266),
  (79, 3, .getfield 37, .getfield 266),
  (101, 3, .getfield 37, .getfield 266),
  (106, 3, .invokevirtual 89, .invokevirtual 98)]
def cd_97 : List (Nat × Nat × Instr × Instr) := sp_97 ++ lk_97
def sp_98 : List (Nat × Nat × Instr × Instr) := [(0, 1, .iload_n 1, .iload 1),
  (1, 2, .bipush 90, .iconst 90),
  (3, 3, .if_icmp .eq 51, .if_icmp .eq 54),
  (6, 1, .iload_n 1, .iload 1),
  (7, 2, .bipush 66, .iconst 66),
  (9, 3, .if_icmp .eq 45, .if_icmp .eq 54),
  (12, 1, .iload_n 1, .iload 1),
  (13, 2, .bipush 67, .iconst 67),
  (15, 3, .if_icmp .eq 39, .if_icmp .eq 54),
  (18, 1, .iload_n 1, .iload 1),
  (19, 2, .bipush 83, .iconst 83),
  (21, 3, .if_icmp .eq 33, .if_icmp .eq 54),
  (24, 1, .iload_n 1, .iload 1),
  (25, 2, .bipush 73, .iconst 73),
  (27, 3, .if_icmp .eq 27, .if_icmp .eq 54),
  (30, 1, .iload_n 1, .iload 1),
  (31, 2, .bipush 74, .iconst 74),
  (33, 3, .if_icmp .eq 21, .if_icmp .eq 54),
  (36, 1, .iload_n 1, .iload 1),
  (37, 2, .bipush 70, .iconst 70),
  (39, 3, .if_icmp .eq 15, .if_icmp .eq 54),
  (42, 1, .iload_n 1, .iload 1),
  (43, 2, .bipush 68, .iconst 68),
  (45, 3, .if_icmp .eq 9, .if_icmp .eq 54),
  (48, 1, .iload_n 1, .iload 1),
  (49, 2, .bipush 84, .iconst 84),
  (51, 3, .if_icmp .ne 7, .if_icmp .ne 58),
  (54, 1, .iconst 1, .iconst 1),
  (55, 3, .goto 4, .goto 59),
  (58, 1, .iconst 0, .iconst 0),
  (59, 1, .ireturn, .ireturn)]
def lk_98 : List (Nat × Nat × Instr × Instr) := []
def cd_98 : List (Nat × Nat × Instr × Instr) := sp_98 ++ lk_98
def sp_99 : List (Nat × Nat × Instr × Instr) := [(0, 1, .aload_n 0, .aload 0),
  (1, 1, .iconst 4, .iconst 4),
  (5, 1, .ireturn, .ireturn)]
def lk_99 : List (Nat × Nat × Instr × Instr) := [(2, 3, .invokevirtual 97, .invokevirtual 96)]
def cd_99 : List (Nat × Nat × Instr × Instr) := sp_99 ++ lk_99
def sp_100 : List (Nat × Nat × Instr × Instr) := [(0, 1, .aload_n 0, .aload 0),
  (4, 1, .iconst 1, .iconst 1),
  (5, 3, .if_icmp .ne 18, .if_icmp .ne 23),
  (8, 1, .aload_n 0, .aload 0),
  (12, 1, .iconst 0, .iconst 0),
  (13, 1, .caload, .caload),
  (14, 2, .bipush 86, .iconst 86),
  (16, 3, .if_icmp .ne 7, .if_icmp .ne 23),
  (19, 1, .iconst 1, .iconst 1),
  (20, 3, .goto 4, .goto 24),
  (23, 1, .iconst 0, .iconst 0),
  (24, 1, .istore_n 1, .istore 1),
  (25, 1, .iload_n 1, .iload 1),
  (26, 3, .ifCond .eq 7, .ifCond .eq 33),
  (29, 1, .iconst 1, .iconst 1),
  (30, 3, .goto 8, .goto 38),
  (33, 1, .aload_n 0, .aload 0),
  (34, 1, .iconst 0, .iconst 0),
  (38, 1, .istore_n 2, .istore 2),
  (39, 1, .aload_n 0, .aload 0),
  (43, 1, .istore_n 3, .istore 3),
  (44, 1, .aload_n 0, .aload 0),
  (45, 1, .iconst 0, .iconst 0),
  (49, 1, .iload_n 2, .iload 2),
  (50, 1, .iload_n 3, .iload 3),
  (51, 3, .if_icmp .ne 7, .if_icmp .ne 58),
  (54, 1, .iload_n 3, .iload 3),
  (55, 3, .ifCond .ne 6, .ifCond .ne 61),
  (58, 2, .bipush (-3), .iconst (-3)),
  (60, 1, .ireturn, .ireturn),
  (61, 1, .iconst 0, .iconst 0),
  (62, 2, .istore 4, .istore 4),
  (64, 2, .iload 4, .iload 4),
  (66, 1, .iload_n 3, .iload 3),
  (67, 3, .if_icmp .ge 27, .if_icmp .ge 94),
  (70, 1, .aload_n 0, .aload 0),
  (74, 3, .sipush 200, .iconst 200),
  (77, 2, .iload 4, .iload 4),
  (79, 1, .iadd, .iadd),
  (80, 1, .aload_n 0, .aload 0),
  (84, 2, .iload 4, .iload 4),
  (86, 1, .caload, .caload),
  (87, 1, .castore, .castore),
  (88, 3, .iinc 4 1, .iinc 4 1),
  (91, 3, .goto (-27), .goto 64),
  (94, 1, .aload_n 0, .aload 0),
  (98, 1, .iconst 5, .iconst 5),
  (99, 1, .iload_n 3, .iload 3),
  (100, 1, .iastore, .iastore),
  (101, 1, .iconst 0, .iconst 0),
  (102, 1, .ireturn, .ireturn)]
def lk_100 : List (Nat × Nat × Instr × Instr) := [(1, 3, .getfield 7, .getfield 257),
  (9, 3, .getfield 37, .getfield 266),
  (35, 3, .invokevirtual 93, .invokevirtual 97),
  (40, 3, .getfield 7, .getfield 257),
  (46, 3, .putfield 7, .putfield 257),
  (71, 3, .getfield 41, .getfield 267),
  (81, 3, .getfield 37, .getfield 266),
  (95, 3, .getfield 44, .getfield 268)]
def cd_100 : List (Nat × Nat × Instr × Instr) := sp_100 ++ lk_100
def sp_101 : List (Nat × Nat × Instr × Instr) := [(0, 1, .aload_n 0, .aload 0),
  (4, 2, .bipush 60, .iconst 60),
  (6, 3, .if_icmp .ne 6, .if_icmp .ne 12),
  (9, 2, .bipush (-2), .iconst (-2)),
  (11, 1, .ireturn, .ireturn),
  (12, 1, .aload_n 0, .aload 0),
  (16, 1, .aload_n 0, .aload 0),
  (20, 1, .iload_n 1, .iload 1),
  (21, 1, .iastore, .iastore),
  (22, 1, .aload_n 0, .aload 0),
  (23, 1, .dup, .dup),
  (27, 1, .iconst 1, .iconst 1),
  (28, 1, .iadd, .iadd),
  (32, 1, .aload_n 0, .aload 0),
  (36, 1, .ireturn, .ireturn)]
def lk_101 : List (Nat × Nat × Instr × Instr) := [(1, 3, .getfield 13, .getfield 258),
  (13, 3, .getfield 48, .getfield 269),
  (17, 3, .getfield 13, .getfield 258),
  (24, 3, .getfield 13, .getfield 258),
  (29, 3, .putfield 13, .putfield 258),
  (33, 3, .getfield 13, .getfield 258)]
def cd_101 : List (Nat × Nat × Instr × Instr) := sp_101 ++ lk_101
def sp_102 : List (Nat × Nat × Instr × Instr) := [(0, 1, .aload_n 0, .aload 0),
  (4, 1, .istore_n 1, .istore 1),
  (5, 1, .aload_n 0, .aload 0),
  (6, 1, .iconst 0, .iconst 0),
  (10, 1, .iload_n 1, .iload 1),
  (11, 1, .ireturn, .ireturn)]
def lk_102 : List (Nat × Nat × Instr × Instr) := [(1, 3, .getfield 13, .getfield 258),
  (7, 3, .putfield 13, .putfield 258)]
def cd_102 : List (Nat × Nat × Instr × Instr) := sp_102 ++ lk_102
def sp_103 : List (Nat × Nat × Instr × Instr) := [(0, 1, .aload_n 0, .aload 0),
  (4, 2, .bipush 20, .iconst 20),
  (6, 3, .if_icmp .ne 6, .if_icmp .ne 12),
  (9, 2, .bipush (-2), .iconst (-2)),
  (11, 1, .ireturn, .ireturn),
  (12, 1, .aload_n 0, .aload 0),
  (16, 1, .aload_n 0, .aload 0),
  (20, 3, .sipush 200, .iconst 200),
  (23, 1, .caload, .caload),
  (24, 1, .istore_n 1, .istore 1),
  (25, 1, .aload_n 0, .aload 0),
  (26, 1, .iconst 1, .iconst 1),
  (30, 1, .aload_n 0, .aload 0),
  (34, 1, .iconst 1, .iconst 1),
  (35, 1, .iconst 0, .iconst 0),
  (36, 1, .iastore, .iastore),
  (37, 1, .iconst 0, .iconst 0),
  (38, 1, .istore_n 2, .istore 2),
  (39, 1, .iconst 0, .iconst 0),
  (40, 1, .istore_n 3, .istore 3),
  (41, 1, .iload_n 1, .iload 1),
  (42, 2, .bipush 90, .iconst 90),
  (44, 3, .if_icmp .ne 22, .if_icmp .ne 66),
  (47, 1, .aload_n 0, .aload 0),
  (51, 1, .iconst 1, .iconst 1),
  (52, 1, .iand, .iand),
  (53, 1, .iconst 1, .iconst 1),
  (54, 3, .if_icmp .ne 7, .if_icmp .ne 61),
  (57, 1, .iconst 1, .iconst 1),
  (58, 3, .goto 4, .goto 62),
  (61, 1, .iconst 0, .iconst 0),
  (62, 1, .istore_n 3, .istore 3),
  (63, 3, .goto 26, .goto 89),
  (66, 1, .iload_n 1, .iload 1),
  (67, 2, .bipush 86, .iconst 86),
  (69, 3, .if_icmp .eq 20, .if_icmp .eq 89),
  (72, 1, .aload_n 0, .aload 0),
  (73, 3, .sipush 200, .iconst 200),
  (76, 1, .iconst 0, .iconst 0),
  (80, 1, .aload_n 0, .aload 0),
  (84, 1, .istore_n 2, .istore 2),
  (85, 1, .aload_n 0, .aload 0),
  (89, 1, .aload_n 0, .aload 0),
  (90, 1, .iconst 2, .iconst 2),
  (94, 1, .aload_n 0, .aload 0),
  (98, 1, .iconst 2, .iconst 2),
  (99, 1, .iconst 0, .iconst 0),
  (100, 1, .iastore, .iastore),
  (101, 1, .iload_n 1, .iload 1),
  (102, 2, .bipush 86, .iconst 86),
  (104, 3, .if_icmp .eq 17, .if_icmp .eq 121),
  (107, 1, .iload_n 1, .iload 1),
  (108, 2, .bipush 90, .iconst 90),
  (110, 3, .if_icmp .eq 11, .if_icmp .eq 121),
  (113, 1, .iload_n 2, .iload 2),
  (114, 3, .ifCond .ne 7, .ifCond .ne 121),
  (117, 1, .iconst 1, .iconst 1),
  (118, 3, .goto 4, .goto 122),
  (121, 1, .iconst 0, .iconst 0),
  (122, 2, .istore 4, .istore 4),
  (124, 1, .iload_n 1, .iload 1),
  (125, 2, .bipush 90, .iconst 90),
  (127, 3, .if_icmp .ne 23, .if_icmp .ne 150),
  (130, 1, .aload_n 0, .aload 0),
  (131, 1, .iload_n 3, .iload 3),
  (132, 3, .ifCond .eq 9, .ifCond .eq 141),
  (138, 3, .goto 6, .goto 144),
  (147, 3, .goto 59, .goto 206),
  (150, 1, .iload_n 2, .iload 2),
  (151, 3, .ifCond .eq 13, .ifCond .eq 164),
  (154, 1, .aload_n 0, .aload 0),
  (161, 3, .goto 45, .goto 206),
  (164, 1, .iload_n 1, .iload 1),
  (165, 2, .bipush 91, .iconst 91),
  (167, 3, .if_icmp .ne 27, .if_icmp .ne 194),
  (170, 1, .aload_n 0, .aload 0),
  (177, 1, .aload_n 0, .aload 0),
  (184, 1, .aload_n 0, .aload 0),
  (191, 3, .goto 15, .goto 206),
  (194, 2, .iload 4, .iload 4),
  (196, 3, .ifCond .eq 10, .ifCond .eq 206),
  (199, 1, .aload_n 0, .aload 0),
  (206, 2, .iload 4, .iload 4),
  (208, 3, .ifCond .eq 20, .ifCond .eq 228),
  (211, 1, .aload_n 0, .aload 0),
  (212, 1, .iconst 1, .iconst 1),
  (216, 1, .aload_n 0, .aload 0),
  (217, 2, .bipush 44, .iconst 44),
  (222, 1, .aload_n 0, .aload 0),
  (223, 2, .bipush 32, .iconst 32),
  (228, 1, .aload_n 0, .aload 0),
  (229, 1, .iconst 0, .iconst 0),
  (233, 2, .iload 4, .iload 4),
  (235, 3, .ifCond .eq 34, .ifCond .eq 269),
  (238, 1, .iload_n 1, .iload 1),
  (239, 2, .bipush 70, .iconst 70),
  (241, 3, .if_icmp .eq 9, .if_icmp .eq 250),
  (244, 1, .iload_n 1, .iload 1),
  (245, 2, .bipush 68, .iconst 68),
  (247, 3, .if_icmp .ne 22, .if_icmp .ne 269),
  (250, 1, .aload_n 0, .aload 0),
  (251, 1, .iload_n 1, .iload 1),
  (252, 2, .bipush 70, .iconst 70),
  (254, 3, .if_icmp .ne 9, .if_icmp .ne 263),
  (260, 3, .goto 6, .goto 266),
  (269, 1, .iload_n 1, .iload 1),
  (270, 2, .bipush 86, .iconst 86),
  (272, 3, .if_icmp .eq 9, .if_icmp .eq 281),
  (275, 1, .aload_n 0, .aload 0),
  (276, 2, .bipush 41, .iconst 41),
  (281, 1, .aload_n 0, .aload 0),
  (282, 2, .bipush 59, .iconst 59),
  (287, 1, .aload_n 0, .aload 0),
  (288, 1, .iconst 0, .iconst 0),
  (292, 1, .ireturn, .ireturn)]
def lk_103 : List (Nat × Nat × Instr × Instr) := [(1, 3, .getfield 16, .getfield 259),
  (13, 3, .invokevirtual 240, .invokevirtual 104),
  (17, 3, .getfield 41, .getfield 267),
  (27, 3, .putfield 70, .putfield 276),
  (31, 3, .getfield 67, .getfield 275),
  (48, 3, .invokevirtual 129, .invokevirtual 112),
  (77, 3, .invokevirtual 220, .invokevirtual 110),
  (81, 3, .getfield 82, .getfield 280),
  (86, 3, .invokevirtual 227, .invokevirtual 109),
  (91, 3, .putfield 70, .putfield 276),
  (95, 3, .getfield 67, .getfield 275),
  (135, 3, .ldc2_w 243, .ldc2_w 1416787301),
  (141, 3, .ldc2_w 245, .ldc2_w 302282208101),
  (144, 3, .invokevirtual 247, .invokevirtual 124),
  (155, 3, .ldc2_w 250, .ldc2_w 1316318316),
  (158, 3, .invokevirtual 247, .invokevirtual 124),
  (171, 3, .ldc2_w 230, .ldc2_w 107148485161588),
  (174, 3, .invokevirtual 112, .invokevirtual 105),
  (178, 3, .ldc2_w 252, .ldc2_w 281092972921),
  (181, 3, .invokevirtual 112, .invokevirtual 105),
  (185, 3, .ldc2_w 254, .ldc2_w 19546522352644904),
  (188, 3, .invokevirtual 112, .invokevirtual 105),
  (200, 3, .ldc2_w 256, .ldc2_w 76353602940019),
  (203, 3, .invokevirtual 247, .invokevirtual 124),
  (213, 3, .invokevirtual 258, .invokevirtual 125),
  (219, 3, .invokevirtual 102, .invokevirtual 106),
  (225, 3, .invokevirtual 102, .invokevirtual 106),
  (230, 3, .invokevirtual 258, .invokevirtual 125),
  (257, 3, .ldc2_w 261, .ldc2_w 48516758909030),
  (263, 3, .ldc2_w 263, .ldc2_w 189518589488),
  (266, 3, .invokevirtual 112, .invokevirtual 105),
  (278, 3, .invokevirtual 102, .invokevirtual 106),
  (284, 3, .invokevirtual 102, .invokevirtual 106),
  (289, 3, .invokevirtual 265, .invokevirtual 126)]
def cd_103 : List (Nat × Nat × Instr × Instr) := sp_103 ++ lk_103
def sp_104 : List (Nat × Nat × Instr × Instr) := [(0, 1, .aload_n 0, .aload 0),
  (1, 1, .iconst 0, .iconst 0),
  (5, 1, .aload_n 0, .aload 0),
  (9, 1, .iconst 0, .iconst 0),
  (10, 1, .iconst 0, .iconst 0),
  (11, 1, .iastore, .iastore),
  (12, 1, .aload_n 0, .aload 0),
  (13, 1, .iconst 0, .iconst 0),
  (17, 1, .aload_n 0, .aload 0),
  (18, 1, .iconst 0, .iconst 0),
  (22, 1, .aload_n 0, .aload 0),
  (29, 1, .aload_n 0, .aload 0),
  (36, 1, .aload_n 0, .aload 0),
  (37, 1, .iconst 4, .iconst 4),
  (41, 1, .aload_n 0, .aload 0),
  (45, 1, .aload_n 0, .aload 0),
  (46, 2, .bipush 41, .iconst 41),
  (51, 1, .return_, .return_)]
def lk_104 : List (Nat × Nat × Instr × Instr) := [(2, 3, .putfield 70, .putfield 276),
  (6, 3, .getfield 67, .getfield 275),
  (14, 3, .putfield 19, .putfield 260),
  (19, 3, .putfield 73, .putfield 277),
  (23, 3, .ldc2_w 223, .ldc2_w 6080266760336191090),
  (26, 3, .invokevirtual 112, .invokevirtual 105),
  (30, 3, .ldc2_w 225, .ldc2_w 7695912),
  (33, 3, .invokevirtual 112, .invokevirtual 105),
  (38, 3, .invokevirtual 189, .invokevirtual 107),
  (42, 3, .invokevirtual 227, .invokevirtual 109),
  (48, 3, .invokevirtual 102, .invokevirtual 106)]
def cd_104 : List (Nat × Nat × Instr × Instr) := sp_104 ++ lk_104
def sp_105 : List (Nat × Nat × Instr × Instr) := [(0, 2, .bipush 56, .iconst 56),
  (2, 1, .istore_n 3, .istore 3),
  (3, 1, .iload_n 3, .iload 3),
  (4, 3, .ifCond .lt 33, .ifCond .lt 37),
  (7, 1, .lload_n 1, .lload 1),
  (8, 1, .iload_n 3, .iload 3),
  (9, 1, .lshr, .lshr),
  (13, 1, .land, .land),
  (14, 1, .lconst 0, .ldc2_w 0),
  (15, 1, .lcmp, .lcmp),
  (16, 3, .ifCond .eq 15, .ifCond .eq 31),
  (19, 1, .aload_n 0, .aload 0),
  (20, 1, .lload_n 1, .lload 1),
  (21, 1, .iload_n 3, .iload 3),
  (22, 1, .lshr, .lshr),
  (26, 1, .land, .land),
  (27, 1, .l2i, .l2i),
  (31, 3, .iinc 3 (-8), .iinc 3 (-8)),
  (34, 3, .goto (-31), .goto 3),
  (37, 1, .return_, .return_)]
def lk_105 : List (Nat × Nat × Instr × Instr) := [(10, 3, .ldc2_w 100, .ldc2_w 255),
  (23, 3, .ldc2_w 100, .ldc2_w 255),
  (28, 3, .invokevirtual 102, .invokevirtual 106)]
def cd_105 : List (Nat × Nat × Instr × Instr) := sp_105 ++ lk_105
def sp_106 : List (Nat × Nat × Instr × Instr) := [(0, 1, .aload_n 0, .aload 0),
  (4, 1, .aload_n 0, .aload 0),
  (8, 1, .iaload, .iaload),
  (9, 3, .sipush 325, .iconst 325),
  (12, 3, .if_icmp .ge 28, .if_icmp .ge 40),
  (15, 1, .aload_n 0, .aload 0),
  (19, 1, .aload_n 0, .aload 0),
  (23, 3, .sipush 325, .iconst 325),
  (26, 1, .imul, .imul),
  (27, 1, .aload_n 0, .aload 0),
  (31, 1, .aload_n 0, .aload 0),
  (35, 1, .iaload, .iaload),
  (36, 1, .iadd, .iadd),
  (37, 1, .iload_n 1, .iload 1),
  (38, 1, .i2c, .i2c),
  (39, 1, .castore, .castore),
  (40, 1, .aload_n 0, .aload 0),
  (44, 1, .aload_n 0, .aload 0),
  (48, 1, .dup2, .dup2),
  (49, 1, .iaload, .iaload),
  (50, 1, .iconst 1, .iconst 1),
  (51, 1, .iadd, .iadd),
  (52, 1, .iastore, .iastore),
  (53, 1, .return_, .return_)]
def lk_106 : List (Nat × Nat × Instr × Instr) := [(1, 3, .getfield 67, .getfield 275),
  (5, 3, .getfield 70, .getfield 276),
  (16, 3, .getfield 64, .getfield 274),
  (20, 3, .getfield 70, .getfield 276),
  (28, 3, .getfield 67, .getfield 275),
  (32, 3, .getfield 70, .getfield 276),
  (41, 3, .getfield 67, .getfield 275),
  (45, 3, .getfield 70, .getfield 276)]
def cd_106 : List (Nat × Nat × Instr × Instr) := sp_106 ++ lk_106
def sp_107 : List (Nat × Nat × Instr × Instr) := [(0, 1, .iconst 0, .iconst 0),
  (1, 1, .istore_n 2, .istore 2),
  (2, 1, .iload_n 1, .iload 1),
  (3, 2, .bipush 40, .iconst 40),
  (5, 1, .imul, .imul),
  (6, 1, .istore_n 3, .istore 3),
  (7, 1, .aload_n 0, .aload 0),
  (11, 2, .istore 4, .istore 4),
  (13, 1, .iload_n 3, .iload 3),
  (14, 1, .iload_n 1, .iload 1),
  (15, 2, .bipush 40, .iconst 40),
  (17, 1, .imul, .imul),
  (18, 1, .aload_n 0, .aload 0),
  (22, 1, .iload_n 1, .iload 1),
  (23, 1, .iaload, .iaload),
  (24, 1, .iadd, .iadd),
  (25, 3, .if_icmp .ge 68, .if_icmp .ge 93),
  (28, 1, .iload_n 2, .iload 2),
  (29, 3, .ifCond .le 15, .ifCond .le 44),
  (32, 1, .aload_n 0, .aload 0),
  (33, 2, .bipush (-44), .iconst (-44)),
  (38, 1, .aload_n 0, .aload 0),
  (39, 2, .bipush (-32), .iconst (-32)),
  (44, 1, .aload_n 0, .aload 0),
  (45, 1, .iconst 2, .iconst 2),
  (46, 1, .iload_n 3, .iload 3),
  (47, 1, .imul, .imul),
  (51, 1, .aload_n 0, .aload 0),
  (55, 1, .iload_n 3, .iload 3),
  (56, 1, .caload, .caload),
  (57, 2, .bipush 91, .iconst 91),
  (59, 3, .if_icmp .ne 9, .if_icmp .ne 68),
  (62, 3, .iinc 3 1, .iinc 3 1),
  (65, 3, .goto (-14), .goto 51),
  (68, 1, .iload_n 3, .iload 3),
  (69, 1, .aload_n 0, .aload 0),
  (73, 1, .iload_n 3, .iload 3),
  (74, 1, .caload, .caload),
  (75, 2, .bipush 79, .iconst 79),
  (77, 3, .if_icmp .ne 7, .if_icmp .ne 84),
  (80, 1, .iconst 2, .iconst 2),
  (81, 3, .goto 4, .goto 85),
  (84, 1, .iconst 1, .iconst 1),
  (85, 1, .iadd, .iadd),
  (86, 1, .istore_n 3, .istore 3),
  (87, 3, .iinc 2 1, .iinc 2 1),
  (90, 3, .goto (-77), .goto 13),
  (93, 2, .iload 4, .iload 4),
  (95, 2, .istore 5, .istore 5),
  (97, 1, .aload_n 0, .aload 0),
  (101, 1, .iconst 1, .iconst 1),
  (102, 1, .isub, .isub),
  (103, 2, .istore 6, .istore 6),
  (105, 2, .iload 5, .iload 5),
  (107, 2, .iload 6, .iload 6),
  (109, 3, .if_icmp .ge 44, .if_icmp .ge 153),
  (112, 1, .aload_n 0, .aload 0),
  (116, 2, .iload 5, .iload 5),
  (118, 1, .iaload, .iaload),
  (119, 2, .istore 7, .istore 7),
  (121, 1, .aload_n 0, .aload 0),
  (125, 2, .iload 5, .iload 5),
  (127, 1, .aload_n 0, .aload 0),
  (131, 2, .iload 6, .iload 6),
  (133, 1, .iaload, .iaload),
  (134, 1, .iastore, .iastore),
  (135, 1, .aload_n 0, .aload 0),
  (139, 2, .iload 6, .iload 6),
  (141, 2, .iload 7, .iload 7),
  (143, 1, .iastore, .iastore),
  (144, 3, .iinc 5 1, .iinc 5 1),
  (147, 3, .iinc 6 (-1), .iinc 6 (-1)),
  (150, 3, .goto (-45), .goto 105),
  (153, 1, .return_, .return_)]
def lk_107 : List (Nat × Nat × Instr × Instr) := [(8, 3, .getfield 79, .getfield 279),
  (19, 3, .getfield 44, .getfield 268),
  (35, 3, .invokevirtual 179, .invokevirtual 108),
  (41, 3, .invokevirtual 179, .invokevirtual 108),
  (48, 3, .invokevirtual 179, .invokevirtual 108),
  (52, 3, .getfield 41, .getfield 267),
  (70, 3, .getfield 41, .getfield 267),
  (98, 3, .getfield 79, .getfield 279),
  (113, 3, .getfield 76, .getfield 278),
  (122, 3, .getfield 76, .getfield 278),
  (128, 3, .getfield 76, .getfield 278),
  (136, 3, .getfield 76, .getfield 278)]
def cd_107 : List (Nat × Nat × Instr × Instr) := sp_107 ++ lk_107
def sp_108 : List (Nat × Nat × Instr × Instr) := [(0, 1, .aload_n 0, .aload 0),
  (4, 1, .aload_n 0, .aload 0),
  (8, 1, .iload_n 1, .iload 1),
  (9, 1, .iastore, .iastore),
  (10, 1, .aload_n 0, .aload 0),
  (11, 1, .dup, .dup),
  (15, 1, .iconst 1, .iconst 1),
  (16, 1, .iadd, .iadd),
  (20, 1, .return_, .return_)]
def lk_108 : List (Nat × Nat × Instr × Instr) := [(1, 3, .getfield 76, .getfield 278),
  (5, 3, .getfield 79, .getfield 279),
  (12, 3, .getfield 79, .getfield 279),
  (17, 3, .putfield 79, .putfield 279)]
def cd_108 : List (Nat × Nat × Instr × Instr) := sp_108 ++ lk_108
def sp_109 : List (Nat × Nat × Instr × Instr) := [(0, 1, .aload_n 0, .aload 0),
  (4, 3, .ifCond .le 78, .ifCond .le 82),
  (7, 1, .aload_n 0, .aload 0),
  (8, 1, .dup, .dup),
  (12, 1, .iconst 1, .iconst 1),
  (13, 1, .isub, .isub),
  (17, 1, .aload_n 0, .aload 0),
  (21, 1, .aload_n 0, .aload 0),
  (25, 1, .iaload, .iaload),
  (26, 1, .istore_n 1, .istore 1),
  (27, 1, .iload_n 1, .iload 1),
  (28, 3, .ifCond .ge 12, .ifCond .ge 40),
  (31, 1, .aload_n 0, .aload 0),
  (32, 1, .iload_n 1, .iload 1),
  (33, 1, .ineg, .ineg),
  (37, 3, .goto 42, .goto 79),
  (40, 1, .iload_n 1, .iload 1),
  (41, 3, .sipush 1000, .iconst 1000),
  (44, 3, .if_icmp .ne 16, .if_icmp .ne 60),
  (47, 1, .aload_n 0, .aload 0),
  (48, 1, .dup, .dup),
  (52, 1, .iconst 1, .iconst 1),
  (53, 1, .isub, .isub),
  (57, 3, .goto 22, .goto 79),
  (60, 1, .aload_n 0, .aload 0),
  (61, 1, .iload_n 1, .iload 1),
  (62, 1, .iconst 2, .iconst 2),
  (63, 1, .idiv, .idiv),
  (64, 1, .iload_n 1, .iload 1),
  (65, 1, .iconst 2, .iconst 2),
  (66, 1, .irem, .irem),
  (67, 1, .iconst 1, .iconst 1),
  (68, 3, .if_icmp .ne 7, .if_icmp .ne 75),
  (71, 1, .iconst 1, .iconst 1),
  (72, 3, .goto 4, .goto 76),
  (75, 1, .iconst 0, .iconst 0),
  (79, 3, .goto (-79), .goto 0),
  (82, 1, .return_, .return_)]
def lk_109 : List (Nat × Nat × Instr × Instr) := [(1, 3, .getfield 79, .getfield 279),
  (9, 3, .getfield 79, .getfield 279),
  (14, 3, .putfield 79, .putfield 279),
  (18, 3, .getfield 76, .getfield 278),
  (22, 3, .getfield 79, .getfield 279),
  (34, 3, .invokevirtual 102, .invokevirtual 106),
  (49, 3, .getfield 73, .getfield 277),
  (54, 3, .putfield 73, .putfield 277),
  (76, 3, .invokevirtual 220, .invokevirtual 110)]
def cd_109 : List (Nat × Nat × Instr × Instr) := sp_109 ++ lk_109
def sp_110 : List (Nat × Nat × Instr × Instr) := [(0, 1, .aload_n 0, .aload 0),
  (4, 1, .iload_n 1, .iload 1),
  (5, 1, .caload, .caload),
  (6, 1, .istore_n 3, .istore 3),
  (7, 1, .aload_n 0, .aload 0),
  (8, 1, .iconst 0, .iconst 0),
  (12, 1, .iload_n 3, .iload 3),
  (13, 2, .bipush 91, .iconst 91),
  (15, 3, .if_icmp .ne 12, .if_icmp .ne 27),
  (18, 1, .aload_n 0, .aload 0),
  (19, 1, .iload_n 1, .iload 1),
  (20, 1, .iload_n 2, .iload 2),
  (24, 3, .goto 170, .goto 194),
  (27, 1, .iload_n 3, .iload 3),
  (28, 2, .bipush 79, .iconst 79),
  (30, 3, .if_icmp .ne 21, .if_icmp .ne 51),
  (33, 1, .aload_n 0, .aload 0),
  (34, 1, .aload_n 0, .aload 0),
  (38, 1, .iload_n 1, .iload 1),
  (39, 1, .iconst 1, .iconst 1),
  (40, 1, .iadd, .iadd),
  (41, 1, .caload, .caload),
  (42, 2, .bipush 48, .iconst 48),
  (44, 1, .isub, .isub),
  (48, 3, .goto 146, .goto 194),
  (51, 1, .iload_n 3, .iload 3),
  (52, 2, .bipush 90, .iconst 90),
  (54, 3, .if_icmp .ne 29, .if_icmp .ne 83),
  (57, 1, .aload_n 0, .aload 0),
  (58, 1, .aload_n 0, .aload 0),
  (62, 1, .iconst 1, .iconst 1),
  (63, 1, .iand, .iand),
  (64, 1, .iconst 1, .iconst 1),
  (65, 3, .if_icmp .ne 9, .if_icmp .ne 74),
  (71, 3, .goto 6, .goto 77),
  (80, 3, .goto 114, .goto 194),
  (83, 1, .iload_n 3, .iload 3),
  (84, 2, .bipush 74, .iconst 74),
  (86, 3, .if_icmp .ne 10, .if_icmp .ne 96),
  (89, 1, .aload_n 0, .aload 0),
  (93, 3, .goto 101, .goto 194),
  (96, 1, .iload_n 3, .iload 3),
  (97, 2, .bipush 70, .iconst 70),
  (99, 3, .if_icmp .ne 25, .if_icmp .ne 124),
  (102, 1, .aload_n 0, .aload 0),
  (103, 1, .aload_n 0, .aload 0),
  (104, 1, .aload_n 0, .aload 0),
  (108, 1, .i2l, .i2l),
  (115, 1, .aload_n 0, .aload 0),
  (116, 2, .bipush 102, .iconst 102),
  (121, 3, .goto 73, .goto 194),
  (124, 1, .iload_n 3, .iload 3),
  (125, 2, .bipush 68, .iconst 68),
  (127, 3, .if_icmp .ne 15, .if_icmp .ne 142),
  (130, 1, .aload_n 0, .aload 0),
  (131, 1, .aload_n 0, .aload 0),
  (135, 1, .i2l, .i2l),
  (139, 3, .goto 55, .goto 194),
  (142, 1, .iload_n 3, .iload 3),
  (143, 2, .bipush 84, .iconst 84),
  (145, 3, .if_icmp .ne 10, .if_icmp .ne 155),
  (148, 1, .aload_n 0, .aload 0),
  (152, 3, .goto 42, .goto 194),
  (155, 1, .iload_n 3, .iload 3),
  (156, 2, .bipush 67, .iconst 67),
  (158, 3, .if_icmp .ne 31, .if_icmp .ne 189),
  (161, 1, .aload_n 0, .aload 0),
  (162, 2, .bipush 39, .iconst 39),
  (167, 1, .aload_n 0, .aload 0),
  (168, 1, .aload_n 0, .aload 0),
  (174, 1, .iand, .iand),
  (175, 2, .bipush 39, .iconst 39),
  (180, 1, .aload_n 0, .aload 0),
  (181, 2, .bipush 39, .iconst 39),
  (186, 3, .goto 8, .goto 194),
  (189, 1, .aload_n 0, .aload 0),
  (190, 1, .iload_n 3, .iload 3),
  (194, 1, .return_, .return_)]
def lk_110 : List (Nat × Nat × Instr × Instr) := [(1, 3, .getfield 41, .getfield 267),
  (9, 3, .putfield 82, .putfield 280),
  (21, 3, .invokevirtual 192, .invokevirtual 111),
  (35, 3, .getfield 41, .getfield 267),
  (45, 3, .invokevirtual 196, .invokevirtual 115),
  (59, 3, .invokevirtual 129, .invokevirtual 112),
  (68, 3, .ldc2_w 199, .ldc2_w 1953658213),
  (74, 3, .ldc2_w 201, .ldc2_w 439721161573),
  (77, 3, .invokevirtual 112, .invokevirtual 105),
  (90, 3, .invokevirtual 203, .invokevirtual 116),
  (105, 3, .invokevirtual 129, .invokevirtual 112),
  (109, 3, .invokevirtual 206, .invokevirtual 119),
  (112, 3, .invokevirtual 210, .invokevirtual 120),
  (118, 3, .invokevirtual 102, .invokevirtual 106),
  (132, 3, .invokevirtual 129, .invokevirtual 112),
  (136, 3, .invokevirtual 210, .invokevirtual 120),
  (149, 3, .invokevirtual 213, .invokevirtual 121),
  (164, 3, .invokevirtual 102, .invokevirtual 106),
  (169, 3, .invokevirtual 129, .invokevirtual 112),
  (172, 2, .ldc 154, .iconst 65535),
  (177, 3, .invokevirtual 155, .invokevirtual 122),
  (183, 3, .invokevirtual 102, .invokevirtual 106),
  (191, 3, .invokevirtual 216, .invokevirtual 123)]
def cd_110 : List (Nat × Nat × Instr × Instr) := sp_110 ++ lk_110
def sp_111 : List (Nat × Nat × Instr × Instr) := [(0, 1, .aload_n 0, .aload 0),
  (4, 1, .istore_n 3, .istore 3),
  (5, 1, .iload_n 3, .iload 3),
  (6, 3, .ifCond .ge 8, .ifCond .ge 14),
  (9, 1, .aload_n 0, .aload 0),
  (13, 1, .return_, .return_),
  (14, 1, .iload_n 2, .iload 2),
  (15, 3, .ifCond .ne 21, .ifCond .ne 36),
  (18, 1, .aload_n 0, .aload 0),
  (25, 1, .aload_n 0, .aload 0),
  (26, 1, .iload_n 1, .iload 1),
  (30, 1, .aload_n 0, .aload 0),
  (31, 2, .bipush 32, .iconst 32),
  (36, 1, .aload_n 0, .aload 0),
  (37, 2, .bipush 123, .iconst 123),
  (42, 1, .aload_n 0, .aload 0),
  (43, 2, .bipush (-125), .iconst (-125)),
  (48, 1, .iconst 0, .iconst 0),
  (49, 2, .istore 4, .istore 4),
  (51, 2, .iload 4, .iload 4),
  (53, 1, .iload_n 3, .iload 3),
  (54, 1, .iconst 4, .iconst 4),
  (55, 1, .irem, .irem),
  (56, 3, .if_icmp .ge 37, .if_icmp .ge 93),
  (59, 2, .iload 4, .iload 4),
  (61, 3, .ifCond .le 15, .ifCond .le 76),
  (64, 1, .aload_n 0, .aload 0),
  (65, 2, .bipush (-32), .iconst (-32)),
  (70, 1, .aload_n 0, .aload 0),
  (71, 2, .bipush (-44), .iconst (-44)),
  (76, 1, .aload_n 0, .aload 0),
  (77, 1, .iconst 2, .iconst 2),
  (78, 1, .iload_n 1, .iload 1),
  (79, 1, .iconst 1, .iconst 1),
  (80, 1, .iadd, .iadd),
  (81, 1, .imul, .imul),
  (82, 1, .iconst 1, .iconst 1),
  (83, 1, .iadd, .iadd),
  (87, 3, .iinc 4 1, .iinc 4 1),
  (90, 3, .goto (-39), .goto 51),
  (93, 1, .return_, .return_)]
def lk_111 : List (Nat × Nat × Instr × Instr) := [(1, 3, .invokevirtual 129, .invokevirtual 112),
  (10, 3, .invokevirtual 151, .invokevirtual 113),
  (19, 3, .ldc2_w 182, .ldc2_w 1852143392),
  (22, 3, .invokevirtual 112, .invokevirtual 105),
  (27, 3, .invokevirtual 184, .invokevirtual 114),
  (33, 3, .invokevirtual 102, .invokevirtual 106),
  (39, 3, .invokevirtual 102, .invokevirtual 106),
  (45, 3, .invokevirtual 179, .invokevirtual 108),
  (67, 3, .invokevirtual 179, .invokevirtual 108),
  (73, 3, .invokevirtual 179, .invokevirtual 108),
  (84, 3, .invokevirtual 179, .invokevirtual 108)]
def cd_111 : List (Nat × Nat × Instr × Instr) := sp_111 ++ lk_111
def sp_112 : List (Nat × Nat × Instr × Instr) := [(0, 1, .aload_n 0, .aload 0),
  (1, 1, .dup, .dup),
  (5, 1, .iconst 1, .iconst 1),
  (6, 1, .iadd, .iadd),
  (10, 1, .aload_n 0, .aload 0),
  (14, 1, .aload_n 0, .aload 0),
  (18, 3, .if_icmp .gt 17, .if_icmp .gt 35),
  (21, 1, .aload_n 0, .aload 0),
  (25, 1, .aload_n 0, .aload 0),
  (29, 1, .iconst 1, .iconst 1),
  (30, 1, .isub, .isub),
  (31, 1, .iaload, .iaload),
  (32, 3, .goto 4, .goto 36),
  (35, 1, .iconst 0, .iconst 0),
  (36, 1, .ireturn, .ireturn)]
def lk_112 : List (Nat × Nat × Instr × Instr) := [(2, 3, .getfield 19, .getfield 260),
  (7, 3, .putfield 19, .putfield 260),
  (11, 3, .getfield 19, .getfield 260),
  (15, 3, .getfield 13, .getfield 258),
  (22, 3, .getfield 48, .getfield 269),
  (26, 3, .getfield 19, .getfield 260)]
def cd_112 : List (Nat × Nat × Instr × Instr) := sp_112 ++ lk_112
def sp_113 : List (Nat × Nat × Instr × Instr) := [(0, 1, .aload_n 0, .aload 0),
  (7, 1, .aload_n 0, .aload 0),
  (8, 1, .iconst 1, .iconst 1),
  (12, 1, .return_, .return_)]
def lk_113 : List (Nat × Nat × Instr × Instr) := [(1, 3, .ldc2_w 159, .ldc2_w 1853189228),
  (4, 3, .invokevirtual 112, .invokevirtual 105),
  (9, 3, .putfield 82, .putfield 280)]
def cd_113 : List (Nat × Nat × Instr × Instr) := sp_113 ++ lk_113
def sp_114 : List (Nat × Nat × Instr × Instr) := [(0, 1, .iload_n 1, .iload 1),
  (1, 1, .istore_n 2, .istore 2),
  (2, 1, .iconst 0, .iconst 0),
  (3, 1, .istore_n 3, .istore 3),
  (4, 1, .aload_n 0, .aload 0),
  (8, 1, .iload_n 2, .iload 2),
  (9, 1, .caload, .caload),
  (10, 2, .bipush 91, .iconst 91),
  (12, 3, .if_icmp .ne 9, .if_icmp .ne 21),
  (15, 3, .iinc 2 1, .iinc 2 1),
  (18, 3, .goto (-14), .goto 4),
  (21, 1, .iload_n 2, .iload 2),
  (22, 1, .iload_n 1, .iload 1),
  (23, 1, .isub, .isub),
  (24, 1, .istore_n 3, .istore 3),
  (25, 1, .aload_n 0, .aload 0),
  (29, 1, .iload_n 2, .iload 2),
  (30, 1, .caload, .caload),
  (31, 113, .tableswitch 203 66 90 #[123, 133, 183, 203, 173, 203, 203, 153, 163, 203, 203, 203, 203, 203, 203, 203, 203, 143, 193, 203, 203, 203, 203, 203, 113], .lookupswitch 234 #[(66, 154), (67, 164), (68, 214), (69, 234), (70, 204), (71, 234), (72, 234), (73, 184), (74, 194), (75, 234), (76, 234), (77, 234), (78, 234), (79, 234), (80, 234), (81, 234), (82, 234), (83, 174), (84, 224), (85, 234), (86, 234), (87, 234), (88, 234), (89, 234), (90, 144)]),
  (144, 1, .aload_n 0, .aload 0),
  (151, 3, .goto 101, .goto 252),
  (154, 1, .aload_n 0, .aload 0),
  (161, 3, .goto 91, .goto 252),
  (164, 1, .aload_n 0, .aload 0),
  (171, 3, .goto 81, .goto 252),
  (174, 1, .aload_n 0, .aload 0),
  (181, 3, .goto 71, .goto 252),
  (184, 1, .aload_n 0, .aload 0),
  (191, 3, .goto 61, .goto 252),
  (194, 1, .aload_n 0, .aload 0),
  (201, 3, .goto 51, .goto 252),
  (204, 1, .aload_n 0, .aload 0),
  (211, 3, .goto 41, .goto 252),
  (214, 1, .aload_n 0, .aload 0),
  (221, 3, .goto 31, .goto 252),
  (224, 1, .aload_n 0, .aload 0),
  (231, 3, .goto 21, .goto 252),
  (234, 1, .aload_n 0, .aload 0),
  (235, 2, .bipush 67, .iconst 67),
  (240, 1, .aload_n 0, .aload 0),
  (241, 1, .aload_n 0, .aload 0),
  (245, 1, .iload_n 2, .iload 2),
  (246, 1, .iconst 1, .iconst 1),
  (247, 1, .iadd, .iadd),
  (248, 1, .caload, .caload),
  (252, 1, .iconst 0, .iconst 0),
  (253, 2, .istore 4, .istore 4),
  (255, 2, .iload 4, .iload 4),
  (257, 1, .iload_n 3, .iload 3),
  (258, 3, .if_icmp .ge 21, .if_icmp .ge 279),
  (261, 1, .aload_n 0, .aload 0),
  (262, 2, .bipush 91, .iconst 91),
  (267, 1, .aload_n 0, .aload 0),
  (268, 2, .bipush 93, .iconst 93),
  (273, 3, .iinc 4 1, .iinc 4 1),
  (276, 3, .goto (-21), .goto 255),
  (279, 1, .return_, .return_)]
def lk_114 : List (Nat × Nat × Instr × Instr) := [(5, 3, .getfield 41, .getfield 267),
  (26, 3, .getfield 41, .getfield 267),
  (145, 3, .ldc2_w 161, .ldc2_w 27707072068280686),
  (148, 3, .invokevirtual 112, .invokevirtual 105),
  (155, 3, .ldc2_w 163, .ldc2_w 1652126821),
  (158, 3, .invokevirtual 112, .invokevirtual 105),
  (165, 3, .ldc2_w 165, .ldc2_w 1667785074),
  (168, 3, .invokevirtual 112, .invokevirtual 105),
  (175, 3, .ldc2_w 167, .ldc2_w 495673373300),
  (178, 3, .invokevirtual 112, .invokevirtual 105),
  (185, 3, .ldc2_w 169, .ldc2_w 6909556),
  (188, 3, .invokevirtual 112, .invokevirtual 105),
  (195, 3, .ldc2_w 171, .ldc2_w 1819242087),
  (198, 3, .invokevirtual 112, .invokevirtual 105),
  (205, 3, .ldc2_w 173, .ldc2_w 439905902964),
  (208, 3, .invokevirtual 112, .invokevirtual 105),
  (215, 3, .ldc2_w 175, .ldc2_w 110429873532005),
  (218, 3, .invokevirtual 112, .invokevirtual 105),
  (225, 3, .ldc2_w 177, .ldc2_w 91759600823911),
  (228, 3, .invokevirtual 112, .invokevirtual 105),
  (237, 3, .invokevirtual 102, .invokevirtual 106),
  (242, 3, .getfield 41, .getfield 267),
  (249, 3, .invokevirtual 102, .invokevirtual 106),
  (264, 3, .invokevirtual 102, .invokevirtual 106),
  (270, 3, .invokevirtual 102, .invokevirtual 106)]
def cd_114 : List (Nat × Nat × Instr × Instr) := sp_114 ++ lk_114
def sp_115 : List (Nat × Nat × Instr × Instr) := [(0, 1, .aload_n 0, .aload 0),
  (4, 1, .istore_n 2, .istore 2),
  (5, 1, .iload_n 2, .iload 2),
  (6, 3, .ifCond .lt 11, .ifCond .lt 17),
  (9, 1, .aload_n 0, .aload 0),
  (13, 1, .iconst 4, .iconst 4),
  (14, 3, .if_icmp .ne 8, .if_icmp .ne 22),
  (17, 1, .aload_n 0, .aload 0),
  (21, 1, .return_, .return_),
  (22, 1, .aload_n 0, .aload 0),
  (29, 1, .aload_n 0, .aload 0),
  (30, 2, .bipush 48, .iconst 48),
  (32, 1, .iload_n 1, .iload 1),
  (33, 1, .iadd, .iadd),
  (37, 1, .aload_n 0, .aload 0),
  (38, 2, .bipush 40, .iconst 40),
  (43, 1, .aload_n 0, .aload 0),
  (44, 1, .dup, .dup),
  (48, 1, .iconst 1, .iconst 1),
  (49, 1, .iadd, .iadd),
  (53, 1, .aload_n 0, .aload 0),
  (54, 3, .sipush 1000, .iconst 1000),
  (60, 1, .aload_n 0, .aload 0),
  (61, 2, .bipush (-41), .iconst (-41)),
  (66, 1, .aload_n 0, .aload 0),
  (67, 1, .iload_n 1, .iload 1),
  (71, 1, .return_, .return_)]
def lk_115 : List (Nat × Nat × Instr × Instr) := [(1, 3, .invokevirtual 129, .invokevirtual 112),
  (10, 3, .getfield 73, .getfield 277),
  (18, 3, .invokevirtual 151, .invokevirtual 113),
  (23, 3, .ldc2_w 187, .ldc2_w 474148708419),
  (26, 3, .invokevirtual 112, .invokevirtual 105),
  (34, 3, .invokevirtual 102, .invokevirtual 106),
  (40, 3, .invokevirtual 102, .invokevirtual 106),
  (45, 3, .getfield 73, .getfield 277),
  (50, 3, .putfield 73, .putfield 277),
  (57, 3, .invokevirtual 179, .invokevirtual 108),
  (63, 3, .invokevirtual 179, .invokevirtual 108),
  (68, 3, .invokevirtual 189, .invokevirtual 107)]
def cd_115 : List (Nat × Nat × Instr × Instr) := sp_115 ++ lk_115
def sp_116 : List (Nat × Nat × Instr × Instr) := [(0, 1, .aload_n 0, .aload 0),
  (4, 1, .istore_n 1, .istore 1),
  (5, 1, .iload_n 1, .iload 1),
  (6, 1, .i2l, .i2l),
  (10, 1, .lmul, .lmul),
  (11, 1, .aload_n 0, .aload 0),
  (15, 1, .i2l, .i2l),
  (19, 1, .land, .land),
  (20, 1, .ladd, .ladd),
  (21, 1, .lstore_n 2, .lstore 2),
  (22, 1, .lload_n 2, .lload 2),
  (26, 1, .lcmp, .lcmp),
  (27, 3, .ifCond .ne 11, .ifCond .ne 38),
  (30, 1, .aload_n 0, .aload 0),
  (37, 1, .return_, .return_),
  (38, 1, .aload_n 0, .aload 0),
  (39, 1, .lload_n 2, .lload 2),
  (43, 1, .aload_n 0, .aload 0),
  (44, 2, .bipush 76, .iconst 76),
  (49, 1, .return_, .return_)]
def lk_116 : List (Nat × Nat × Instr × Instr) := [(1, 3, .invokevirtual 129, .invokevirtual 112),
  (7, 3, .ldc2_w 143, .ldc2_w 4294967296),
  (12, 3, .invokevirtual 129, .invokevirtual 112),
  (16, 3, .ldc2_w 145, .ldc2_w 4294967295),
  (23, 3, .ldc2_w 147, .ldc2_w 9223372036854775808),
  (31, 3, .ldc2_w 149, .ldc2_w 1282371175),
  (34, 3, .invokevirtual 140, .invokevirtual 117),
  (40, 3, .invokevirtual 126, .invokevirtual 118),
  (46, 3, .invokevirtual 102, .invokevirtual 106)]
def cd_116 : List (Nat × Nat × Instr × Instr) := sp_116 ++ lk_116
def sp_117 : List (Nat × Nat × Instr × Instr) := [(0, 1, .aload_n 0, .aload 0),
  (1, 1, .lload_n 1, .lload 1),
  (5, 1, .aload_n 0, .aload 0),
  (12, 1, .aload_n 0, .aload 0),
  (19, 1, .return_, .return_)]
def lk_117 : List (Nat × Nat × Instr × Instr) := [(2, 3, .invokevirtual 112, .invokevirtual 105),
  (6, 3, .ldc2_w 116, .ldc2_w 3336403499907170636),
  (9, 3, .invokevirtual 112, .invokevirtual 105),
  (13, 3, .ldc2_w 118, .ldc2_w 21829),
  (16, 3, .invokevirtual 112, .invokevirtual 105)]
def cd_117 : List (Nat × Nat × Instr × Instr) := sp_117 ++ lk_117
def sp_118 : List (Nat × Nat × Instr × Instr) := [(0, 1, .lload_n 1, .lload 1),
  (1, 1, .lconst 0, .ldc2_w 0),
  (2, 1, .lcmp, .lcmp),
  (3, 3, .ifCond .ge 8, .ifCond .ge 11),
  (6, 1, .lload_n 1, .lload 1),
  (7, 1, .lneg, .lneg),
  (8, 3, .goto 4, .goto 12),
  (11, 1, .lload_n 1, .lload 1),
  (12, 1, .lstore_n 3, .lstore 3),
  (13, 1, .lconst 1, .ldc2_w 1),
  (14, 2, .lstore 5, .lstore 5),
  (16, 1, .lload_n 1, .lload 1),
  (17, 1, .lconst 0, .ldc2_w 0),
  (18, 1, .lcmp, .lcmp),
  (19, 3, .ifCond .ge 9, .ifCond .ge 28),
  (22, 1, .aload_n 0, .aload 0),
  (23, 2, .bipush 45, .iconst 45),
  (28, 1, .lload_n 3, .lload 3),
  (29, 2, .lload 5, .lload 5),
  (31, 1, .ldiv, .ldiv),
  (35, 1, .lcmp, .lcmp),
  (36, 3, .ifCond .le 14, .ifCond .le 50),
  (39, 2, .lload 5, .lload 5),
  (44, 1, .lmul, .lmul),
  (45, 2, .lstore 5, .lstore 5),
  (47, 3, .goto (-19), .goto 28),
  (50, 2, .lload 5, .lload 5),
  (52, 1, .lconst 0, .ldc2_w 0),
  (53, 1, .lcmp, .lcmp),
  (54, 3, .ifCond .le 31, .ifCond .le 85),
  (57, 1, .aload_n 0, .aload 0),
  (61, 1, .lload_n 3, .lload 3),
  (62, 2, .lload 5, .lload 5),
  (64, 1, .ldiv, .ldiv),
  (68, 1, .lrem, .lrem),
  (69, 1, .ladd, .ladd),
  (70, 1, .l2i, .l2i),
  (74, 2, .lload 5, .lload 5),
  (79, 1, .ldiv, .ldiv),
  (80, 2, .lstore 5, .lstore 5),
  (82, 3, .goto (-32), .goto 50),
  (85, 1, .return_, .return_)]
def lk_118 : List (Nat × Nat × Instr × Instr) := [(25, 3, .invokevirtual 102, .invokevirtual 106),
  (32, 3, .ldc2_w 106, .ldc2_w 9),
  (41, 3, .ldc2_w 108, .ldc2_w 10),
  (58, 3, .ldc2_w 110, .ldc2_w 48),
  (65, 3, .ldc2_w 108, .ldc2_w 10),
  (71, 3, .invokevirtual 102, .invokevirtual 106),
  (76, 3, .ldc2_w 108, .ldc2_w 10)]
def cd_118 : List (Nat × Nat × Instr × Instr) := sp_118 ++ lk_118
def sp_119 : List (Nat × Nat × Instr × Instr) := [(0, 1, .lload_n 1, .lload 1),
  (1, 1, .lconst 0, .ldc2_w 0),
  (2, 1, .lcmp, .lcmp),
  (3, 3, .ifCond .ge 8, .ifCond .ge 11),
  (6, 1, .lload_n 1, .lload 1),
  (7, 1, .lneg, .lneg),
  (8, 3, .goto 4, .goto 12),
  (11, 1, .lload_n 1, .lload 1),
  (12, 1, .lstore_n 3, .lstore 3),
  (13, 1, .lconst 1, .ldc2_w 1),
  (14, 2, .lstore 5, .lstore 5),
  (16, 1, .lload_n 3, .lload 3),
  (17, 2, .lload 5, .lload 5),
  (19, 1, .ldiv, .ldiv),
  (23, 1, .lcmp, .lcmp),
  (24, 3, .ifCond .lt 14, .ifCond .lt 38),
  (27, 2, .lload 5, .lload 5),
  (32, 1, .lmul, .lmul),
  (33, 2, .lstore 5, .lstore 5),
  (35, 3, .goto (-19), .goto 16),
  (38, 1, .lload_n 3, .lload 3),
  (39, 2, .lload 5, .lload 5),
  (41, 1, .ldiv, .ldiv),
  (42, 2, .lstore 7, .lstore 7),
  (44, 1, .lload_n 3, .lload 3),
  (45, 2, .lload 5, .lload 5),
  (47, 1, .lrem, .lrem),
  (48, 2, .lstore 9, .lstore 9),
  (53, 2, .lload 9, .lload 9),
  (55, 1, .lmul, .lmul),
  (56, 2, .lload 5, .lload 5),
  (58, 1, .lcmp, .lcmp),
  (59, 3, .ifCond .gt 26, .ifCond .gt 85),
  (65, 2, .lload 9, .lload 9),
  (67, 1, .lmul, .lmul),
  (68, 2, .lload 5, .lload 5),
  (70, 1, .lcmp, .lcmp),
  (71, 3, .ifCond .ne 20, .ifCond .ne 91),
  (74, 2, .lload 7, .lload 7),
  (79, 1, .lrem, .lrem),
  (80, 1, .lconst 1, .ldc2_w 1),
  (81, 1, .lcmp, .lcmp),
  (82, 3, .ifCond .ne 9, .ifCond .ne 91),
  (85, 2, .lload 7, .lload 7),
  (87, 1, .lconst 1, .ldc2_w 1),
  (88, 1, .ladd, .ladd),
  (89, 2, .lstore 7, .lstore 7),
  (91, 1, .lload_n 1, .lload 1),
  (92, 1, .lconst 0, .ldc2_w 0),
  (93, 1, .lcmp, .lcmp),
  (94, 3, .ifCond .ge 12, .ifCond .ge 106),
  (97, 2, .lload 7, .lload 7),
  (99, 1, .lneg, .lneg),
  (100, 2, .lload 5, .lload 5),
  (102, 1, .lmul, .lmul),
  (103, 3, .goto 8, .goto 111),
  (106, 2, .lload 7, .lload 7),
  (108, 2, .lload 5, .lload 5),
  (110, 1, .lmul, .lmul),
  (111, 1, .lreturn, .lreturn)]
def lk_119 : List (Nat × Nat × Instr × Instr) := [(20, 3, .ldc2_w 120, .ldc2_w 16777216),
  (29, 3, .ldc2_w 122, .ldc2_w 2),
  (50, 3, .ldc2_w 122, .ldc2_w 2),
  (62, 3, .ldc2_w 122, .ldc2_w 2),
  (76, 3, .ldc2_w 122, .ldc2_w 2)]
def cd_119 : List (Nat × Nat × Instr × Instr) := sp_119 ++ lk_119
def sp_120 : List (Nat × Nat × Instr × Instr) := [(0, 1, .lload_n 1, .lload 1),
  (1, 1, .lconst 0, .ldc2_w 0),
  (2, 1, .lcmp, .lcmp),
  (3, 3, .ifCond .ge 8, .ifCond .ge 11),
  (6, 1, .lload_n 1, .lload 1),
  (7, 1, .lneg, .lneg),
  (8, 3, .goto 4, .goto 12),
  (11, 1, .lload_n 1, .lload 1),
  (12, 1, .lstore_n 3, .lstore 3),
  (13, 1, .lload_n 1, .lload 1),
  (14, 1, .lconst 0, .ldc2_w 0),
  (15, 1, .lcmp, .lcmp),
  (16, 3, .ifCond .ge 9, .ifCond .ge 25),
  (19, 1, .aload_n 0, .aload 0),
  (20, 2, .bipush 45, .iconst 45),
  (25, 1, .aload_n 0, .aload 0),
  (26, 1, .lload_n 3, .lload 3),
  (30, 1, .ldiv, .ldiv),
  (34, 1, .aload_n 0, .aload 0),
  (35, 2, .bipush 46, .iconst 46),
  (40, 1, .lload_n 3, .lload 3),
  (44, 1, .lrem, .lrem),
  (45, 1, .l2i, .l2i),
  (46, 2, .bipush 125, .iconst 125),
  (48, 1, .imul, .imul),
  (49, 2, .istore 5, .istore 5),
  (51, 1, .aload_n 0, .aload 0),
  (52, 2, .bipush 48, .iconst 48),
  (54, 2, .iload 5, .iload 5),
  (56, 2, .bipush 100, .iconst 100),
  (58, 1, .idiv, .idiv),
  (59, 1, .iadd, .iadd),
  (63, 2, .iload 5, .iload 5),
  (65, 2, .bipush 100, .iconst 100),
  (67, 1, .irem, .irem),
  (68, 3, .ifCond .eq 18, .ifCond .eq 86),
  (71, 1, .aload_n 0, .aload 0),
  (72, 2, .bipush 48, .iconst 48),
  (74, 2, .iload 5, .iload 5),
  (76, 2, .bipush 10, .iconst 10),
  (78, 1, .idiv, .idiv),
  (79, 2, .bipush 10, .iconst 10),
  (81, 1, .irem, .irem),
  (82, 1, .iadd, .iadd),
  (86, 2, .iload 5, .iload 5),
  (88, 2, .bipush 10, .iconst 10),
  (90, 1, .irem, .irem),
  (91, 3, .ifCond .eq 15, .ifCond .eq 106),
  (94, 1, .aload_n 0, .aload 0),
  (95, 2, .bipush 48, .iconst 48),
  (97, 2, .iload 5, .iload 5),
  (99, 2, .bipush 10, .iconst 10),
  (101, 1, .irem, .irem),
  (102, 1, .iadd, .iadd),
  (106, 1, .return_, .return_)]
def lk_120 : List (Nat × Nat × Instr × Instr) := [(22, 3, .invokevirtual 102, .invokevirtual 106),
  (27, 3, .ldc2_w 124, .ldc2_w 8),
  (31, 3, .invokevirtual 126, .invokevirtual 118),
  (37, 3, .invokevirtual 102, .invokevirtual 106),
  (41, 3, .ldc2_w 124, .ldc2_w 8),
  (60, 3, .invokevirtual 102, .invokevirtual 106),
  (83, 3, .invokevirtual 102, .invokevirtual 106),
  (103, 3, .invokevirtual 102, .invokevirtual 106)]
def cd_120 : List (Nat × Nat × Instr × Instr) := sp_120 ++ lk_120
def sp_121 : List (Nat × Nat × Instr × Instr) := [(0, 1, .aload_n 0, .aload 0),
  (4, 1, .istore_n 1, .istore 1),
  (5, 1, .iload_n 1, .iload 1),
  (6, 3, .ifCond .ge 8, .ifCond .ge 14),
  (9, 1, .aload_n 0, .aload 0),
  (13, 1, .return_, .return_),
  (14, 1, .aload_n 0, .aload 0),
  (15, 2, .bipush 34, .iconst 34),
  (20, 1, .iconst 0, .iconst 0),
  (21, 1, .istore_n 2, .istore 2),
  (22, 1, .iload_n 2, .iload 2),
  (23, 1, .iload_n 1, .iload 1),
  (24, 1, .iconst 5, .iconst 5),
  (25, 1, .irem, .irem),
  (26, 3, .if_icmp .ge 22, .if_icmp .ge 48),
  (29, 1, .aload_n 0, .aload 0),
  (30, 1, .aload_n 0, .aload 0),
  (36, 1, .iand, .iand),
  (37, 2, .bipush 34, .iconst 34),
  (42, 3, .iinc 2 1, .iinc 2 1),
  (45, 3, .goto (-23), .goto 22),
  (48, 1, .aload_n 0, .aload 0),
  (49, 2, .bipush 34, .iconst 34),
  (54, 1, .return_, .return_)]
def lk_121 : List (Nat × Nat × Instr × Instr) := [(1, 3, .invokevirtual 129, .invokevirtual 112),
  (10, 3, .invokevirtual 151, .invokevirtual 113),
  (17, 3, .invokevirtual 102, .invokevirtual 106),
  (31, 3, .invokevirtual 129, .invokevirtual 112),
  (34, 2, .ldc 154, .iconst 65535),
  (39, 3, .invokevirtual 155, .invokevirtual 122),
  (51, 3, .invokevirtual 102, .invokevirtual 106)]
def cd_121 : List (Nat × Nat × Instr × Instr) := sp_121 ++ lk_121
def sp_122 : List (Nat × Nat × Instr × Instr) := [(0, 1, .iload_n 1, .iload 1),
  (1, 2, .bipush 10, .iconst 10),
  (3, 3, .if_icmp .eq 15, .if_icmp .eq 18),
  (6, 1, .iload_n 1, .iload 1),
  (7, 2, .bipush 9, .iconst 9),
  (9, 3, .if_icmp .eq 9, .if_icmp .eq 18),
  (12, 1, .iload_n 1, .iload 1),
  (13, 2, .bipush 13, .iconst 13),
  (15, 3, .if_icmp .ne 40, .if_icmp .ne 55),
  (18, 1, .aload_n 0, .aload 0),
  (19, 2, .bipush 92, .iconst 92),
  (24, 1, .aload_n 0, .aload 0),
  (25, 1, .iload_n 1, .iload 1),
  (26, 2, .bipush 10, .iconst 10),
  (28, 3, .if_icmp .ne 8, .if_icmp .ne 36),
  (31, 2, .bipush 110, .iconst 110),
  (33, 3, .goto 16, .goto 49),
  (36, 1, .iload_n 1, .iload 1),
  (37, 2, .bipush 9, .iconst 9),
  (39, 3, .if_icmp .ne 8, .if_icmp .ne 47),
  (42, 2, .bipush 116, .iconst 116),
  (44, 3, .goto 5, .goto 49),
  (47, 2, .bipush 114, .iconst 114),
  (52, 3, .goto 108, .goto 160),
  (55, 1, .iload_n 1, .iload 1),
  (56, 2, .bipush 92, .iconst 92),
  (58, 3, .if_icmp .eq 8, .if_icmp .eq 66),
  (61, 1, .iload_n 1, .iload 1),
  (62, 1, .iload_n 2, .iload 2),
  (63, 3, .if_icmp .ne 17, .if_icmp .ne 80),
  (66, 1, .aload_n 0, .aload 0),
  (67, 2, .bipush 92, .iconst 92),
  (72, 1, .aload_n 0, .aload 0),
  (73, 1, .iload_n 1, .iload 1),
  (77, 3, .goto 83, .goto 160),
  (80, 1, .iload_n 1, .iload 1),
  (81, 2, .bipush 31, .iconst 31),
  (83, 3, .if_icmp .le 17, .if_icmp .le 100),
  (86, 1, .iload_n 1, .iload 1),
  (87, 2, .bipush 127, .iconst 127),
  (89, 3, .if_icmp .ge 11, .if_icmp .ge 100),
  (92, 1, .aload_n 0, .aload 0),
  (93, 1, .iload_n 1, .iload 1),
  (97, 3, .goto 63, .goto 160),
  (100, 1, .aload_n 0, .aload 0),
  (101, 2, .bipush 92, .iconst 92),
  (106, 1, .aload_n 0, .aload 0),
  (107, 2, .bipush 117, .iconst 117),
  (112, 2, .bipush 12, .iconst 12),
  (114, 1, .istore_n 3, .istore 3),
  (115, 1, .iload_n 3, .iload 3),
  (116, 3, .ifCond .lt 44, .ifCond .lt 160),
  (119, 1, .iload_n 1, .iload 1),
  (120, 1, .iload_n 3, .iload 3),
  (121, 1, .ishr, .ishr),
  (122, 2, .bipush 15, .iconst 15),
  (124, 1, .iand, .iand),
  (125, 2, .istore 4, .istore 4),
  (127, 1, .aload_n 0, .aload 0),
  (128, 2, .iload 4, .iload 4),
  (130, 2, .bipush 10, .iconst 10),
  (132, 3, .if_icmp .ge 11, .if_icmp .ge 143),
  (135, 2, .bipush 48, .iconst 48),
  (137, 2, .iload 4, .iload 4),
  (139, 1, .iadd, .iadd),
  (140, 3, .goto 11, .goto 151),
  (143, 2, .bipush 65, .iconst 65),
  (145, 2, .iload 4, .iload 4),
  (147, 1, .iadd, .iadd),
  (148, 2, .bipush 10, .iconst 10),
  (150, 1, .isub, .isub),
  (154, 3, .iinc 3 (-4), .iinc 3 (-4)),
  (157, 3, .goto (-42), .goto 115),
  (160, 1, .return_, .return_)]
def lk_122 : List (Nat × Nat × Instr × Instr) := [(21, 3, .invokevirtual 102, .invokevirtual 106),
  (49, 3, .invokevirtual 102, .invokevirtual 106),
  (69, 3, .invokevirtual 102, .invokevirtual 106),
  (74, 3, .invokevirtual 102, .invokevirtual 106),
  (94, 3, .invokevirtual 102, .invokevirtual 106),
  (103, 3, .invokevirtual 102, .invokevirtual 106),
  (109, 3, .invokevirtual 102, .invokevirtual 106),
  (151, 3, .invokevirtual 102, .invokevirtual 106)]
def cd_122 : List (Nat × Nat × Instr × Instr) := sp_122 ++ lk_122
def sp_123 : List (Nat × Nat × Instr × Instr) := [(0, 1, .aload_n 0, .aload 0),
  (4, 1, .istore_n 2, .istore 2),
  (5, 1, .iload_n 1, .iload 1),
  (6, 2, .bipush 66, .iconst 66),
  (8, 3, .if_icmp .ne 10, .if_icmp .ne 18),
  (11, 1, .aload_n 0, .aload 0),
  (18, 1, .iload_n 1, .iload 1),
  (19, 2, .bipush 83, .iconst 83),
  (21, 3, .if_icmp .ne 10, .if_icmp .ne 31),
  (24, 1, .aload_n 0, .aload 0),
  (31, 1, .iload_n 1, .iload 1),
  (32, 2, .bipush 73, .iconst 73),
  (34, 3, .if_icmp .ne 19, .if_icmp .ne 53),
  (37, 1, .iload_n 2, .iload 2),
  (40, 3, .if_icmp .ne 13, .if_icmp .ne 53),
  (43, 1, .aload_n 0, .aload 0),
  (50, 3, .goto 33, .goto 83),
  (53, 1, .aload_n 0, .aload 0),
  (54, 1, .iload_n 1, .iload 1),
  (55, 2, .bipush 66, .iconst 66),
  (57, 3, .if_icmp .ne 9, .if_icmp .ne 66),
  (60, 1, .iload_n 2, .iload 2),
  (61, 1, .i2b, .i2b),
  (62, 1, .i2l, .i2l),
  (63, 3, .goto 17, .goto 80),
  (66, 1, .iload_n 1, .iload 1),
  (67, 2, .bipush 83, .iconst 83),
  (69, 3, .if_icmp .ne 9, .if_icmp .ne 78),
  (72, 1, .iload_n 2, .iload 2),
  (73, 1, .i2s, .i2s),
  (74, 1, .i2l, .i2l),
  (75, 3, .goto 5, .goto 80),
  (78, 1, .iload_n 2, .iload 2),
  (79, 1, .i2l, .i2l),
  (83, 1, .return_, .return_)]
def lk_123 : List (Nat × Nat × Instr × Instr) := [(1, 3, .invokevirtual 129, .invokevirtual 112),
  (12, 3, .ldc2_w 133, .ldc2_w 2910021850055122944),
  (15, 3, .invokevirtual 112, .invokevirtual 105),
  (25, 3, .ldc2_w 135, .ldc2_w 2914788211709716768),
  (28, 3, .invokevirtual 112, .invokevirtual 105),
  (38, 2, .ldc 137, .iconst (-2147483648)),
  (44, 3, .ldc2_w 138, .ldc2_w 20669119496414578),
  (47, 3, .invokevirtual 140, .invokevirtual 117),
  (80, 3, .invokevirtual 126, .invokevirtual 118)]
def cd_123 : List (Nat × Nat × Instr × Instr) := sp_123 ++ lk_123
def sp_124 : List (Nat × Nat × Instr × Instr) := [(0, 1, .aload_n 0, .aload 0),
  (7, 1, .aload_n 0, .aload 0),
  (8, 1, .lload_n 1, .lload 1),
  (12, 1, .aload_n 0, .aload 0),
  (13, 2, .bipush 40, .iconst 40),
  (18, 1, .return_, .return_)]
def lk_124 : List (Nat × Nat × Instr × Instr) := [(1, 3, .ldc2_w 230, .ldc2_w 107148485161588),
  (4, 3, .invokevirtual 112, .invokevirtual 105),
  (9, 3, .invokevirtual 112, .invokevirtual 105),
  (15, 3, .invokevirtual 102, .invokevirtual 106)]
def cd_124 : List (Nat × Nat × Instr × Instr) := sp_124 ++ lk_124
def sp_125 : List (Nat × Nat × Instr × Instr) := [(0, 1, .iconst 0, .iconst 0),
  (1, 1, .istore_n 2, .istore 2),
  (2, 1, .iload_n 2, .iload 2),
  (3, 1, .aload_n 0, .aload 0),
  (7, 1, .iload_n 1, .iload 1),
  (8, 1, .iaload, .iaload),
  (9, 3, .if_icmp .ge 37, .if_icmp .ge 46),
  (12, 1, .aload_n 0, .aload 0),
  (13, 1, .iload_n 2, .iload 2),
  (14, 3, .sipush 325, .iconst 325),
  (17, 3, .if_icmp .ge 18, .if_icmp .ge 35),
  (20, 1, .aload_n 0, .aload 0),
  (24, 1, .iload_n 1, .iload 1),
  (25, 3, .sipush 325, .iconst 325),
  (28, 1, .imul, .imul),
  (29, 1, .iload_n 2, .iload 2),
  (30, 1, .iadd, .iadd),
  (31, 1, .caload, .caload),
  (32, 3, .goto 5, .goto 37),
  (35, 2, .bipush 32, .iconst 32),
  (40, 3, .iinc 2 1, .iinc 2 1),
  (43, 3, .goto (-41), .goto 2),
  (46, 1, .return_, .return_)]
def lk_125 : List (Nat × Nat × Instr × Instr) := [(4, 3, .getfield 67, .getfield 275),
  (21, 3, .getfield 64, .getfield 274),
  (37, 3, .invokevirtual 102, .invokevirtual 106)]
def cd_125 : List (Nat × Nat × Instr × Instr) := sp_125 ++ lk_125
def sp_126 : List (Nat × Nat × Instr × Instr) := [(0, 1, .aload_n 0, .aload 0),
  (1, 1, .aload_n 0, .aload 0),
  (5, 1, .aload_n 0, .aload 0),
  (9, 3, .if_icmp .ge 10, .if_icmp .ge 19),
  (12, 1, .aload_n 0, .aload 0),
  (16, 3, .goto 7, .goto 23),
  (19, 1, .aload_n 0, .aload 0),
  (26, 1, .aload_n 0, .aload 0),
  (30, 1, .iconst 2, .iconst 2),
  (31, 1, .iaload, .iaload),
  (32, 1, .istore_n 2, .istore 2),
  (33, 1, .iload_n 2, .iload 2),
  (34, 1, .iconst 1, .iconst 1),
  (35, 1, .iadd, .iadd),
  (36, 3, .sipush 300, .iconst 300),
  (39, 3, .if_icmp .le 6, .if_icmp .le 45),
  (42, 2, .bipush (-5), .iconst (-5)),
  (44, 1, .ireturn, .ireturn),
  (45, 1, .iconst 0, .iconst 0),
  (46, 1, .istore_n 3, .istore 3),
  (47, 1, .iload_n 3, .iload 3),
  (48, 1, .aload_n 0, .aload 0),
  (52, 3, .if_icmp .ge 21, .if_icmp .ge 73),
  (55, 1, .aload_n 0, .aload 0),
  (56, 1, .iload_n 3, .iload 3),
  (57, 1, .iload_n 2, .iload 2),
  (61, 3, .ifCond .eq 6, .ifCond .eq 67),
  (64, 2, .bipush (-4), .iconst (-4)),
  (66, 1, .ireturn, .ireturn),
  (67, 3, .iinc 3 1, .iinc 3 1),
  (70, 3, .goto (-23), .goto 47),
  (73, 1, .iconst 0, .iconst 0),
  (74, 1, .istore_n 3, .istore 3),
  (75, 1, .iload_n 3, .iload 3),
  (76, 2, .bipush 75, .iconst 75),
  (78, 3, .if_icmp .ge 24, .if_icmp .ge 102),
  (81, 1, .aload_n 0, .aload 0),
  (85, 1, .aload_n 0, .aload 0),
  (89, 2, .bipush 75, .iconst 75),
  (91, 1, .imul, .imul),
  (92, 1, .iload_n 3, .iload 3),
  (93, 1, .iadd, .iadd),
  (94, 1, .iconst 0, .iconst 0),
  (95, 1, .iastore, .iastore),
  (96, 3, .iinc 3 1, .iinc 3 1),
  (99, 3, .goto (-24), .goto 75),
  (102, 1, .iconst 0, .iconst 0),
  (103, 1, .istore_n 3, .istore 3),
  (104, 1, .iload_n 3, .iload 3),
  (105, 1, .iload_n 2, .iload 2),
  (106, 3, .if_icmp .ge 45, .if_icmp .ge 151),
  (109, 1, .aload_n 0, .aload 0),
  (113, 1, .aload_n 0, .aload 0),
  (117, 2, .bipush 75, .iconst 75),
  (119, 1, .imul, .imul),
  (120, 1, .iload_n 3, .iload 3),
  (121, 1, .iconst 4, .iconst 4),
  (122, 1, .idiv, .idiv),
  (123, 1, .iadd, .iadd),
  (124, 1, .dup2, .dup2),
  (125, 1, .iaload, .iaload),
  (126, 1, .aload_n 0, .aload 0),
  (130, 3, .sipush 650, .iconst 650),
  (133, 1, .iload_n 3, .iload 3),
  (134, 1, .iadd, .iadd),
  (135, 1, .caload, .caload),
  (136, 2, .bipush 8, .iconst 8),
  (138, 1, .iload_n 3, .iload 3),
  (139, 1, .iconst 4, .iconst 4),
  (140, 1, .irem, .irem),
  (141, 1, .imul, .imul),
  (142, 1, .ishl, .ishl),
  (143, 1, .ior, .ior),
  (144, 1, .iastore, .iastore),
  (145, 3, .iinc 3 1, .iinc 3 1),
  (148, 3, .goto (-44), .goto 104),
  (151, 1, .aload_n 0, .aload 0),
  (155, 1, .aload_n 0, .aload 0),
  (159, 1, .iload_n 2, .iload 2),
  (160, 1, .iastore, .iastore),
  (161, 1, .aload_n 0, .aload 0),
  (165, 1, .aload_n 0, .aload 0),
  (169, 1, .iload_n 1, .iload 1),
  (170, 1, .bastore, .bastore),
  (171, 1, .aload_n 0, .aload 0),
  (172, 1, .dup, .dup),
  (176, 1, .iconst 1, .iconst 1),
  (177, 1, .iadd, .iadd),
  (181, 1, .aload_n 0, .aload 0),
  (185, 1, .iconst 1, .iconst 1),
  (186, 1, .isub, .isub),
  (187, 1, .ireturn, .ireturn)]
def lk_126 : List (Nat × Nat × Instr × Instr) := [(2, 3, .getfield 19, .getfield 260),
  (6, 3, .getfield 13, .getfield 258),
  (13, 3, .getfield 19, .getfield 260),
  (20, 3, .getfield 13, .getfield 258),
  (23, 3, .putfield 22, .putfield 261),
  (27, 3, .getfield 67, .getfield 275),
  (49, 3, .getfield 16, .getfield 259),
  (58, 3, .invokevirtual 232, .invokevirtual 127),
  (82, 3, .getfield 51, .getfield 270),
  (86, 3, .getfield 16, .getfield 259),
  (110, 3, .getfield 51, .getfield 270),
  (114, 3, .getfield 16, .getfield 259),
  (127, 3, .getfield 64, .getfield 274),
  (152, 3, .getfield 57, .getfield 272),
  (156, 3, .getfield 16, .getfield 259),
  (162, 3, .getfield 60, .getfield 273),
  (166, 3, .getfield 16, .getfield 259),
  (173, 3, .getfield 16, .getfield 259),
  (178, 3, .putfield 16, .putfield 259),
  (182, 3, .getfield 16, .getfield 259)]
def cd_126 : List (Nat × Nat × Instr × Instr) := sp_126 ++ lk_126
def sp_127 : List (Nat × Nat × Instr × Instr) := [(0, 1, .aload_n 0, .aload 0),
  (4, 1, .iload_n 1, .iload 1),
  (5, 1, .iaload, .iaload),
  (6, 1, .iload_n 2, .iload 2),
  (7, 3, .if_icmp .eq 5, .if_icmp .eq 12),
  (10, 1, .iconst 0, .iconst 0),
  (11, 1, .ireturn, .ireturn),
  (12, 1, .iconst 0, .iconst 0),
  (13, 1, .istore_n 3, .istore 3),
  (14, 1, .iload_n 3, .iload 3),
  (15, 1, .iload_n 2, .iload 2),
  (16, 3, .if_icmp .ge 30, .if_icmp .ge 46),
  (19, 1, .aload_n 0, .aload 0),
  (20, 1, .iload_n 1, .iload 1),
  (21, 1, .iload_n 3, .iload 3),
  (25, 1, .aload_n 0, .aload 0),
  (29, 3, .sipush 650, .iconst 650),
  (32, 1, .iload_n 3, .iload 3),
  (33, 1, .iadd, .iadd),
  (34, 1, .caload, .caload),
  (35, 3, .if_icmp .eq 5, .if_icmp .eq 40),
  (38, 1, .iconst 0, .iconst 0),
  (39, 1, .ireturn, .ireturn),
  (40, 3, .iinc 3 1, .iinc 3 1),
  (43, 3, .goto (-29), .goto 14),
  (46, 1, .iconst 1, .iconst 1),
  (47, 1, .ireturn, .ireturn)]
def lk_127 : List (Nat × Nat × Instr × Instr) := [(1, 3, .getfield 57, .getfield 272),
  (22, 3, .invokevirtual 236, .invokevirtual 128),
  (26, 3, .getfield 64, .getfield 274)]
def cd_127 : List (Nat × Nat × Instr × Instr) := sp_127 ++ lk_127
def sp_128 : List (Nat × Nat × Instr × Instr) := [(0, 1, .aload_n 0, .aload 0),
  (4, 1, .iload_n 1, .iload 1),
  (5, 2, .bipush 75, .iconst 75),
  (7, 1, .imul, .imul),
  (8, 1, .iload_n 2, .iload 2),
  (9, 1, .iconst 4, .iconst 4),
  (10, 1, .idiv, .idiv),
  (11, 1, .iadd, .iadd),
  (12, 1, .iaload, .iaload),
  (13, 2, .bipush 8, .iconst 8),
  (15, 1, .iload_n 2, .iload 2),
  (16, 1, .iconst 4, .iconst 4),
  (17, 1, .irem, .irem),
  (18, 1, .imul, .imul),
  (19, 1, .ishr, .ishr),
  (20, 3, .sipush 255, .iconst 255),
  (23, 1, .iand, .iand),
  (24, 1, .ireturn, .ireturn)]
def lk_128 : List (Nat × Nat × Instr × Instr) := [(1, 3, .getfield 51, .getfield 270)]
def cd_128 : List (Nat × Nat × Instr × Instr) := sp_128 ++ lk_128
def sp_129 : List (Nat × Nat × Instr × Instr) := [(0, 1, .aload_n 0, .aload 0),
  (4, 1, .istore_n 1, .istore 1),
  (5, 1, .aload_n 0, .aload 0),
  (9, 1, .istore_n 2, .istore 2),
  (10, 1, .aload_n 0, .aload 0),
  (11, 1, .iconst 0, .iconst 0),
  (15, 1, .iload_n 1, .iload 1),
  (16, 3, .ifCond .ne 6, .ifCond .ne 22),
  (19, 2, .bipush (-3), .iconst (-3)),
  (21, 1, .ireturn, .ireturn),
  (22, 1, .aload_n 0, .aload 0),
  (26, 2, .bipush 20, .iconst 20),
  (28, 3, .if_icmp .ne 6, .if_icmp .ne 34),
  (31, 2, .bipush (-2), .iconst (-2)),
  (33, 1, .ireturn, .ireturn),
  (34, 1, .aload_n 0, .aload 0),
  (38, 1, .aload_n 0, .aload 0),
  (39, 1, .iconst 2, .iconst 2),
  (43, 1, .aload_n 0, .aload 0),
  (47, 1, .iconst 2, .iconst 2),
  (48, 1, .iconst 0, .iconst 0),
  (49, 1, .iastore, .iastore),
  (50, 1, .aload_n 0, .aload 0),
  (57, 1, .aload_n 0, .aload 0),
  (64, 1, .aload_n 0, .aload 0),
  (65, 1, .iconst 0, .iconst 0),
  (69, 1, .aload_n 0, .aload 0),
  (76, 1, .aload_n 0, .aload 0),
  (83, 1, .aload_n 0, .aload 0),
  (84, 1, .iload_n 2, .iload 2),
  (88, 1, .aload_n 0, .aload 0),
  (95, 1, .aload_n 0, .aload 0),
  (102, 1, .aload_n 0, .aload 0),
  (103, 1, .iload_n 2, .iload 2),
  (107, 1, .aload_n 0, .aload 0),
  (114, 1, .aload_n 0, .aload 0),
  (115, 1, .iconst 1, .iconst 1),
  (119, 1, .ireturn, .ireturn)]
def lk_129 : List (Nat × Nat × Instr × Instr) := [(1, 3, .invokevirtual 269, .invokevirtual 130),
  (6, 3, .getfield 7, .getfield 257),
  (12, 3, .putfield 7, .putfield 257),
  (23, 3, .getfield 16, .getfield 259),
  (35, 3, .invokevirtual 240, .invokevirtual 104),
  (40, 3, .putfield 70, .putfield 276),
  (44, 3, .getfield 67, .getfield 275),
  (51, 3, .ldc2_w 273, .ldc2_w 8390902236154830880),
  (54, 3, .invokevirtual 112, .invokevirtual 105),
  (58, 3, .ldc2_w 275, .ldc2_w 8224),
  (61, 3, .invokevirtual 112, .invokevirtual 105),
  (66, 3, .invokevirtual 258, .invokevirtual 125),
  (70, 3, .ldc2_w 277, .ldc2_w 64914674688032),
  (73, 3, .invokevirtual 112, .invokevirtual 105),
  (77, 3, .ldc2_w 279, .ldc2_w 112568566556706),
  (80, 3, .invokevirtual 112, .invokevirtual 105),
  (85, 3, .invokevirtual 281, .invokevirtual 131),
  (89, 3, .ldc2_w 284, .ldc2_w 37560479546656),
  (92, 3, .invokevirtual 112, .invokevirtual 105),
  (96, 3, .ldc2_w 286, .ldc2_w 7161132852793321472),
  (99, 3, .invokevirtual 112, .invokevirtual 105),
  (104, 3, .invokevirtual 281, .invokevirtual 131),
  (108, 3, .ldc2_w 288, .ldc2_w 9118426567740029),
  (111, 3, .invokevirtual 112, .invokevirtual 105),
  (116, 3, .invokevirtual 265, .invokevirtual 126)]
def cd_129 : List (Nat × Nat × Instr × Instr) := sp_129 ++ lk_129
def sp_130 : List (Nat × Nat × Instr × Instr) := [(0, 1, .iconst 0, .iconst 0),
  (1, 1, .istore_n 1, .istore 1),
  (2, 1, .iload_n 1, .iload 1),
  (3, 1, .aload_n 0, .aload 0),
  (7, 3, .if_icmp .ge 55, .if_icmp .ge 62),
  (10, 1, .aload_n 0, .aload 0),
  (14, 1, .iload_n 1, .iload 1),
  (15, 1, .caload, .caload),
  (16, 2, .bipush 65, .iconst 65),
  (18, 3, .if_icmp .lt 14, .if_icmp .lt 32),
  (21, 1, .aload_n 0, .aload 0),
  (25, 1, .iload_n 1, .iload 1),
  (26, 1, .caload, .caload),
  (27, 2, .bipush 90, .iconst 90),
  (29, 3, .if_icmp .le 27, .if_icmp .le 56),
  (32, 1, .aload_n 0, .aload 0),
  (36, 1, .iload_n 1, .iload 1),
  (37, 1, .caload, .caload),
  (38, 2, .bipush 97, .iconst 97),
  (40, 3, .if_icmp .lt 14, .if_icmp .lt 54),
  (43, 1, .aload_n 0, .aload 0),
  (47, 1, .iload_n 1, .iload 1),
  (48, 1, .caload, .caload),
  (49, 2, .bipush 122, .iconst 122),
  (51, 3, .if_icmp .le 5, .if_icmp .le 56),
  (54, 1, .iconst 0, .iconst 0),
  (55, 1, .ireturn, .ireturn),
  (56, 3, .iinc 1 1, .iinc 1 1),
  (59, 3, .goto (-57), .goto 2),
  (62, 1, .aload_n 0, .aload 0),
  (66, 3, .ifCond .le 7, .ifCond .le 73),
  (69, 1, .iconst 1, .iconst 1),
  (70, 3, .goto 4, .goto 74),
  (73, 1, .iconst 0, .iconst 0),
  (74, 1, .ireturn, .ireturn)]
def lk_130 : List (Nat × Nat × Instr × Instr) := [(4, 3, .getfield 7, .getfield 257),
  (11, 3, .getfield 37, .getfield 266),
  (22, 3, .getfield 37, .getfield 266),
  (33, 3, .getfield 37, .getfield 266),
  (44, 3, .getfield 37, .getfield 266),
  (63, 3, .getfield 7, .getfield 257)]
def cd_130 : List (Nat × Nat × Instr × Instr) := sp_130 ++ lk_130
def sp_131 : List (Nat × Nat × Instr × Instr) := [(0, 1, .iconst 0, .iconst 0),
  (1, 1, .istore_n 2, .istore 2),
  (2, 1, .iload_n 2, .iload 2),
  (3, 1, .iload_n 1, .iload 1),
  (4, 3, .if_icmp .ge 19, .if_icmp .ge 23),
  (7, 1, .aload_n 0, .aload 0),
  (8, 1, .aload_n 0, .aload 0),
  (12, 1, .iload_n 2, .iload 2),
  (13, 1, .caload, .caload),
  (17, 3, .iinc 2 1, .iinc 2 1),
  (20, 3, .goto (-18), .goto 2),
  (23, 1, .return_, .return_)]
def lk_131 : List (Nat × Nat × Instr × Instr) := [(9, 3, .getfield 37, .getfield 266),
  (14, 3, .invokevirtual 102, .invokevirtual 106)]
def cd_131 : List (Nat × Nat × Instr × Instr) := sp_131 ++ lk_131
def sp_132 : List (Nat × Nat × Instr × Instr) := [(0, 1, .aload_n 0, .aload 0),
  (4, 3, .ifCond .ge 7, .ifCond .ge 11),
  (7, 1, .iconst (-1), .iconst (-1)),
  (8, 3, .goto 7, .goto 15),
  (11, 1, .aload_n 0, .aload 0),
  (15, 1, .ireturn, .ireturn)]
def lk_132 : List (Nat × Nat × Instr × Instr) := [(1, 3, .getfield 22, .getfield 261),
  (12, 3, .getfield 22, .getfield 261)]
def cd_132 : List (Nat × Nat × Instr × Instr) := sp_132 ++ lk_132
def sp_133 : List (Nat × Nat × Instr × Instr) := [(0, 1, .aload_n 0, .aload 0),
  (4, 1, .istore_n 1, .istore 1),
  (5, 1, .aload_n 0, .aload 0),
  (6, 1, .iconst 0, .iconst 0),
  (10, 1, .iload_n 1, .iload 1),
  (11, 1, .ireturn, .ireturn)]
def lk_133 : List (Nat × Nat × Instr × Instr) := [(1, 3, .getfield 16, .getfield 259),
  (7, 3, .putfield 16, .putfield 259)]
def cd_133 : List (Nat × Nat × Instr × Instr) := sp_133 ++ lk_133
def sp_134 : List (Nat × Nat × Instr × Instr) := [(0, 1, .aload_n 0, .aload 0),
  (1, 1, .iconst 0, .iconst 0),
  (5, 1, .aload_n 0, .aload 0),
  (6, 1, .iconst 0, .iconst 0),
  (10, 1, .aload_n 0, .aload 0),
  (11, 1, .iconst 0, .iconst 0),
  (15, 1, .aload_n 0, .aload 0),
  (16, 1, .iconst 0, .iconst 0),
  (20, 1, .aload_n 0, .aload 0),
  (27, 1, .aload_n 0, .aload 0),
  (34, 1, .aload_n 0, .aload 0),
  (41, 1, .aload_n 0, .aload 0),
  (48, 1, .aload_n 0, .aload 0),
  (49, 1, .iconst 0, .iconst 0),
  (53, 1, .iconst 0, .iconst 0),
  (54, 1, .istore_n 1, .istore 1),
  (55, 1, .iload_n 1, .iload 1),
  (56, 1, .aload_n 0, .aload 0),
  (60, 3, .if_icmp .ge 110, .if_icmp .ge 170),
  (63, 1, .iload_n 1, .iload 1),
  (64, 3, .ifCond .le 11, .ifCond .le 75),
  (67, 1, .aload_n 0, .aload 0),
  (68, 1, .aload_n 0, .aload 0),
  (75, 1, .aload_n 0, .aload 0),
  (79, 1, .istore_n 2, .istore 2),
  (80, 1, .aload_n 0, .aload 0),
  (81, 1, .iconst 4, .iconst 4),
  (85, 1, .aload_n 0, .aload 0),
  (92, 1, .aload_n 0, .aload 0),
  (93, 1, .iload_n 2, .iload 2),
  (97, 1, .aload_n 0, .aload 0),
  (101, 1, .istore_n 2, .istore 2),
  (102, 1, .aload_n 0, .aload 0),
  (103, 1, .iconst 4, .iconst 4),
  (107, 1, .aload_n 0, .aload 0),
  (114, 1, .aload_n 0, .aload 0),
  (121, 1, .aload_n 0, .aload 0),
  (122, 1, .iload_n 1, .iload 1),
  (126, 1, .aload_n 0, .aload 0),
  (133, 1, .aload_n 0, .aload 0),
  (134, 1, .iload_n 2, .iload 2),
  (138, 1, .aload_n 0, .aload 0),
  (139, 1, .iload_n 1, .iload 1),
  (143, 1, .aload_n 0, .aload 0),
  (147, 1, .istore_n 2, .istore 2),
  (148, 1, .aload_n 0, .aload 0),
  (149, 1, .iconst 4, .iconst 4),
  (153, 1, .aload_n 0, .aload 0),
  (154, 2, .bipush 125, .iconst 125),
  (159, 1, .aload_n 0, .aload 0),
  (160, 1, .iload_n 2, .iload 2),
  (164, 3, .iinc 1 1, .iinc 1 1),
  (167, 3, .goto (-112), .goto 55),
  (170, 1, .aload_n 0, .aload 0),
  (174, 1, .istore_n 1, .istore 1),
  (175, 1, .aload_n 0, .aload 0),
  (176, 2, .bipush 125, .iconst 125),
  (181, 1, .aload_n 0, .aload 0),
  (182, 1, .iload_n 1, .iload 1),
  (186, 1, .aload_n 0, .aload 0),
  (190, 1, .ireturn, .ireturn)]
def lk_134 : List (Nat × Nat × Instr × Instr) := [(2, 3, .putfield 25, .putfield 262),
  (7, 3, .putfield 28, .putfield 263),
  (12, 3, .putfield 31, .putfield 264),
  (17, 3, .putfield 34, .putfield 265),
  (21, 3, .ldc2_w 311, .ldc2_w 8103491322287169635),
  (24, 3, .invokevirtual 313, .invokevirtual 135),
  (28, 3, .ldc2_w 316, .ldc2_w 465491424032),
  (31, 3, .invokevirtual 313, .invokevirtual 135),
  (35, 3, .ldc2_w 318, .ldc2_w 6080266760336200805),
  (38, 3, .invokevirtual 313, .invokevirtual 135),
  (42, 3, .ldc2_w 320, .ldc2_w 1936990331),
  (45, 3, .invokevirtual 313, .invokevirtual 135),
  (50, 3, .invokevirtual 302, .invokevirtual 138),
  (57, 3, .getfield 16, .getfield 259),
  (69, 3, .getfield 25, .getfield 262),
  (72, 3, .invokevirtual 302, .invokevirtual 138),
  (76, 3, .getfield 25, .getfield 262),
  (82, 3, .invokevirtual 305, .invokevirtual 139),
  (86, 3, .ldc2_w 322, .ldc2_w 276293841780),
  (89, 3, .invokevirtual 313, .invokevirtual 135),
  (94, 3, .invokevirtual 302, .invokevirtual 138),
  (98, 3, .getfield 25, .getfield 262),
  (104, 3, .invokevirtual 305, .invokevirtual 139),
  (108, 3, .ldc2_w 324, .ldc2_w 8103491322287169654),
  (111, 3, .invokevirtual 313, .invokevirtual 135),
  (115, 3, .ldc2_w 326, .ldc2_w 8028057901319156596),
  (118, 3, .invokevirtual 313, .invokevirtual 135),
  (123, 3, .invokevirtual 328, .invokevirtual 140),
  (127, 3, .ldc2_w 331, .ldc2_w 673783931),
  (130, 3, .invokevirtual 313, .invokevirtual 135),
  (135, 3, .invokevirtual 302, .invokevirtual 138),
  (140, 3, .invokevirtual 333, .invokevirtual 141),
  (144, 3, .getfield 25, .getfield 262),
  (150, 3, .invokevirtual 305, .invokevirtual 139),
  (156, 3, .invokevirtual 293, .invokevirtual 136),
  (161, 3, .invokevirtual 302, .invokevirtual 138),
  (171, 3, .getfield 25, .getfield 262),
  (178, 3, .invokevirtual 293, .invokevirtual 136),
  (183, 3, .invokevirtual 302, .invokevirtual 138),
  (187, 3, .getfield 25, .getfield 262)]
def cd_134 : List (Nat × Nat × Instr × Instr) := sp_134 ++ lk_134
def sp_135 : List (Nat × Nat × Instr × Instr) := [(0, 2, .bipush 56, .iconst 56),
  (2, 1, .istore_n 3, .istore 3),
  (3, 1, .iload_n 3, .iload 3),
  (4, 3, .ifCond .lt 33, .ifCond .lt 37),
  (7, 1, .lload_n 1, .lload 1),
  (8, 1, .iload_n 3, .iload 3),
  (9, 1, .lshr, .lshr),
  (13, 1, .land, .land),
  (14, 1, .lconst 0, .ldc2_w 0),
  (15, 1, .lcmp, .lcmp),
  (16, 3, .ifCond .eq 15, .ifCond .eq 31),
  (19, 1, .aload_n 0, .aload 0),
  (20, 1, .lload_n 1, .lload 1),
  (21, 1, .iload_n 3, .iload 3),
  (22, 1, .lshr, .lshr),
  (26, 1, .land, .land),
  (27, 1, .l2i, .l2i),
  (31, 3, .iinc 3 (-8), .iinc 3 (-8)),
  (34, 3, .goto (-31), .goto 3),
  (37, 1, .return_, .return_)]
def lk_135 : List (Nat × Nat × Instr × Instr) := [(10, 3, .ldc2_w 100, .ldc2_w 255),
  (23, 3, .ldc2_w 100, .ldc2_w 255),
  (28, 3, .invokevirtual 293, .invokevirtual 136)]
def cd_135 : List (Nat × Nat × Instr × Instr) := sp_135 ++ lk_135
def sp_136 : List (Nat × Nat × Instr × Instr) := [(0, 1, .aload_n 0, .aload 0),
  (1, 1, .aload_n 0, .aload 0),
  (5, 1, .iload_n 1, .iload 1),
  (9, 1, .aload_n 0, .aload 0),
  (10, 1, .dup, .dup),
  (14, 1, .iconst 1, .iconst 1),
  (15, 1, .iadd, .iadd),
  (19, 1, .return_, .return_)]
def lk_136 : List (Nat × Nat × Instr × Instr) := [(2, 3, .getfield 25, .getfield 262),
  (6, 3, .invokevirtual 290, .invokevirtual 137),
  (11, 3, .getfield 25, .getfield 262),
  (16, 3, .putfield 25, .putfield 262)]
def cd_136 : List (Nat × Nat × Instr × Instr) := sp_136 ++ lk_136
def sp_137 : List (Nat × Nat × Instr × Instr) := [(0, 1, .aload_n 0, .aload 0),
  (4, 1, .iload_n 1, .iload 1),
  (5, 1, .iconst 4, .iconst 4),
  (6, 1, .idiv, .idiv),
  (7, 1, .aload_n 0, .aload 0),
  (11, 1, .iload_n 1, .iload 1),
  (12, 1, .iconst 4, .iconst 4),
  (13, 1, .idiv, .idiv),
  (14, 1, .iaload, .iaload),
  (15, 3, .sipush 255, .iconst 255),
  (18, 2, .bipush 8, .iconst 8),
  (20, 1, .iload_n 1, .iload 1),
  (21, 1, .iconst 4, .iconst 4),
  (22, 1, .irem, .irem),
  (23, 1, .imul, .imul),
  (24, 1, .ishl, .ishl),
  (25, 1, .iconst (-1), .iconst (-1)),
  (26, 1, .ixor, .ixor),
  (27, 1, .iand, .iand),
  (28, 1, .iload_n 2, .iload 2),
  (29, 2, .bipush 8, .iconst 8),
  (31, 1, .iload_n 1, .iload 1),
  (32, 1, .iconst 4, .iconst 4),
  (33, 1, .irem, .irem),
  (34, 1, .imul, .imul),
  (35, 1, .ishl, .ishl),
  (36, 1, .ior, .ior),
  (37, 1, .iastore, .iastore),
  (38, 1, .return_, .return_)]
def lk_137 : List (Nat × Nat × Instr × Instr) := [(1, 3, .getfield 54, .getfield 271),
  (8, 3, .getfield 54, .getfield 271)]
def cd_137 : List (Nat × Nat × Instr × Instr) := sp_137 ++ lk_137
def sp_138 : List (Nat × Nat × Instr × Instr) := [(0, 1, .aload_n 0, .aload 0),
  (4, 1, .iload_n 1, .iload 1),
  (5, 1, .isub, .isub),
  (6, 1, .aload_n 0, .aload 0),
  (10, 3, .if_icmp .le 13, .if_icmp .le 23),
  (13, 1, .aload_n 0, .aload 0),
  (14, 1, .aload_n 0, .aload 0),
  (18, 1, .iload_n 1, .iload 1),
  (19, 1, .isub, .isub),
  (23, 1, .aload_n 0, .aload 0),
  (24, 2, .bipush 10, .iconst 10),
  (29, 1, .aload_n 0, .aload 0),
  (30, 1, .dup, .dup),
  (34, 1, .iconst 1, .iconst 1),
  (35, 1, .iadd, .iadd),
  (39, 1, .return_, .return_)]
def lk_138 : List (Nat × Nat × Instr × Instr) := [(1, 3, .getfield 25, .getfield 262),
  (7, 3, .getfield 31, .getfield 264),
  (15, 3, .getfield 25, .getfield 262),
  (20, 3, .putfield 31, .putfield 264),
  (26, 3, .invokevirtual 293, .invokevirtual 136),
  (31, 3, .getfield 28, .getfield 263),
  (36, 3, .putfield 28, .putfield 263)]
def cd_138 : List (Nat × Nat × Instr × Instr) := sp_138 ++ lk_138
def sp_139 : List (Nat × Nat × Instr × Instr) := [(0, 1, .iconst 0, .iconst 0),
  (1, 1, .istore_n 2, .istore 2),
  (2, 1, .iload_n 2, .iload 2),
  (3, 1, .iload_n 1, .iload 1),
  (4, 3, .if_icmp .ge 15, .if_icmp .ge 19),
  (7, 1, .aload_n 0, .aload 0),
  (8, 2, .bipush 32, .iconst 32),
  (13, 3, .iinc 2 1, .iinc 2 1),
  (16, 3, .goto (-14), .goto 2),
  (19, 1, .return_, .return_)]
def lk_139 : List (Nat × Nat × Instr × Instr) := [(10, 3, .invokevirtual 293, .invokevirtual 136)]
def cd_139 : List (Nat × Nat × Instr × Instr) := sp_139 ++ lk_139
def sp_140 : List (Nat × Nat × Instr × Instr) := [(0, 1, .iload_n 1, .iload 1),
  (1, 2, .bipush 9, .iconst 9),
  (3, 3, .if_icmp .le 14, .if_icmp .le 17),
  (6, 1, .aload_n 0, .aload 0),
  (7, 2, .bipush 48, .iconst 48),
  (9, 1, .iload_n 1, .iload 1),
  (10, 2, .bipush 10, .iconst 10),
  (12, 1, .idiv, .idiv),
  (13, 1, .iadd, .iadd),
  (17, 1, .aload_n 0, .aload 0),
  (18, 2, .bipush 48, .iconst 48),
  (20, 1, .iload_n 1, .iload 1),
  (21, 2, .bipush 10, .iconst 10),
  (23, 1, .irem, .irem),
  (24, 1, .iadd, .iadd),
  (28, 1, .return_, .return_)]
def lk_140 : List (Nat × Nat × Instr × Instr) := [(14, 3, .invokevirtual 293, .invokevirtual 136),
  (25, 3, .invokevirtual 293, .invokevirtual 136)]
def cd_140 : List (Nat × Nat × Instr × Instr) := sp_140 ++ lk_140
def sp_141 : List (Nat × Nat × Instr × Instr) := [(0, 1, .aload_n 0, .aload 0),
  (4, 1, .istore_n 2, .istore 2),
  (5, 1, .aload_n 0, .aload 0),
  (6, 2, .bipush 8, .iconst 8),
  (11, 1, .iconst 0, .iconst 0),
  (12, 1, .istore_n 3, .istore 3),
  (13, 1, .iload_n 3, .iload 3),
  (14, 1, .aload_n 0, .aload 0),
  (18, 1, .iload_n 1, .iload 1),
  (19, 1, .iaload, .iaload),
  (20, 3, .if_icmp .ge 49, .if_icmp .ge 69),
  (23, 1, .aload_n 0, .aload 0),
  (24, 1, .iload_n 1, .iload 1),
  (25, 1, .iload_n 3, .iload 3),
  (29, 2, .istore 4, .istore 4),
  (31, 2, .iload 4, .iload 4),
  (33, 2, .bipush 10, .iconst 10),
  (35, 3, .if_icmp .eq 12, .if_icmp .eq 47),
  (38, 1, .aload_n 0, .aload 0),
  (39, 2, .iload 4, .iload 4),
  (44, 3, .goto 19, .goto 63),
  (47, 1, .aload_n 0, .aload 0),
  (48, 1, .iload_n 2, .iload 2),
  (52, 1, .aload_n 0, .aload 0),
  (56, 1, .istore_n 2, .istore 2),
  (57, 1, .aload_n 0, .aload 0),
  (58, 2, .bipush 8, .iconst 8),
  (63, 3, .iinc 3 1, .iinc 3 1),
  (66, 3, .goto (-53), .goto 13),
  (69, 1, .aload_n 0, .aload 0),
  (70, 1, .iload_n 2, .iload 2),
  (74, 1, .return_, .return_)]
def lk_141 : List (Nat × Nat × Instr × Instr) := [(1, 3, .getfield 25, .getfield 262),
  (8, 3, .invokevirtual 305, .invokevirtual 139),
  (15, 3, .getfield 57, .getfield 272),
  (26, 3, .invokevirtual 236, .invokevirtual 128),
  (41, 3, .invokevirtual 293, .invokevirtual 136),
  (49, 3, .invokevirtual 308, .invokevirtual 142),
  (53, 3, .getfield 25, .getfield 262),
  (60, 3, .invokevirtual 305, .invokevirtual 139),
  (71, 3, .invokevirtual 308, .invokevirtual 142)]
def cd_141 : List (Nat × Nat × Instr × Instr) := sp_141 ++ lk_141
def sp_142 : List (Nat × Nat × Instr × Instr) := [(0, 1, .iconst 0, .iconst 0),
  (1, 1, .istore_n 2, .istore 2),
  (2, 1, .iconst 0, .iconst 0),
  (3, 1, .istore_n 3, .istore 3),
  (4, 1, .iload_n 1, .iload 1),
  (5, 2, .istore 4, .istore 4),
  (7, 1, .aload_n 0, .aload 0),
  (8, 1, .iload_n 1, .iload 1),
  (9, 1, .iload_n 3, .iload 3),
  (10, 1, .iadd, .iadd),
  (14, 2, .bipush 32, .iconst 32),
  (16, 3, .if_icmp .ne 9, .if_icmp .ne 25),
  (19, 3, .iinc 3 1, .iinc 3 1),
  (22, 3, .goto (-15), .goto 7),
  (25, 1, .iload_n 3, .iload 3),
  (26, 1, .istore_n 2, .istore 2),
  (27, 1, .iconst 0, .iconst 0),
  (28, 2, .istore 5, .istore 5),
  (30, 2, .iload 5, .iload 5),
  (32, 2, .bipush 100, .iconst 100),
  (34, 3, .if_icmp .ge 204, .if_icmp .ge 238),
  (37, 1, .aload_n 0, .aload 0),
  (41, 2, .iload 4, .iload 4),
  (43, 1, .isub, .isub),
  (44, 1, .aload_n 0, .aload 0),
  (48, 3, .if_icmp .le 190, .if_icmp .le 238),
  (51, 1, .aload_n 0, .aload 0),
  (52, 2, .iload 4, .iload 4),
  (54, 1, .iload_n 2, .iload 2),
  (58, 2, .istore 6, .istore 6),
  (60, 2, .iload 6, .iload 6),
  (62, 3, .ifCond .ge 6, .ifCond .ge 68),
  (65, 3, .goto 173, .goto 238),
  (68, 1, .aload_n 0, .aload 0),
  (72, 2, .iload 6, .iload 6),
  (74, 1, .isub, .isub),
  (75, 1, .iconst 2, .iconst 2),
  (76, 1, .isub, .isub),
  (77, 2, .istore 7, .istore 7),
  (79, 1, .iload_n 3, .iload 3),
  (80, 2, .bipush 8, .iconst 8),
  (82, 1, .iadd, .iadd),
  (83, 2, .istore 8, .istore 8),
  (85, 2, .iload 7, .iload 7),
  (87, 1, .iconst 1, .iconst 1),
  (88, 1, .isub, .isub),
  (89, 2, .istore 9, .istore 9),
  (91, 2, .iload 9, .iload 9),
  (93, 3, .ifCond .lt 34, .ifCond .lt 127),
  (96, 1, .aload_n 0, .aload 0),
  (97, 2, .iload 6, .iload 6),
  (99, 1, .iconst 2, .iconst 2),
  (100, 1, .iadd, .iadd),
  (101, 2, .iload 8, .iload 8),
  (103, 1, .iadd, .iadd),
  (104, 2, .iload 9, .iload 9),
  (106, 1, .iadd, .iadd),
  (107, 1, .aload_n 0, .aload 0),
  (108, 2, .iload 6, .iload 6),
  (110, 1, .iconst 2, .iconst 2),
  (111, 1, .iadd, .iadd),
  (112, 2, .iload 9, .iload 9),
  (114, 1, .iadd, .iadd),
  (121, 3, .iinc 9 (-1), .iinc 9 (-1)),
  (124, 3, .goto (-33), .goto 91),
  (127, 1, .iconst 0, .iconst 0),
  (128, 2, .istore 9, .istore 9),
  (130, 2, .iload 9, .iload 9),
  (132, 2, .iload 8, .iload 8),
  (134, 3, .if_icmp .ge 22, .if_icmp .ge 156),
  (137, 1, .aload_n 0, .aload 0),
  (138, 2, .iload 6, .iload 6),
  (140, 1, .iconst 2, .iconst 2),
  (141, 1, .iadd, .iadd),
  (142, 2, .iload 9, .iload 9),
  (144, 1, .iadd, .iadd),
  (145, 2, .bipush 32, .iconst 32),
  (150, 3, .iinc 9 1, .iinc 9 1),
  (153, 3, .goto (-23), .goto 130),
  (156, 1, .aload_n 0, .aload 0),
  (157, 2, .iload 6, .iload 6),
  (159, 1, .iconst 1, .iconst 1),
  (160, 1, .iadd, .iadd),
  (161, 2, .bipush 10, .iconst 10),
  (166, 2, .iload 6, .iload 6),
  (168, 1, .iconst 1, .iconst 1),
  (169, 1, .iadd, .iadd),
  (170, 2, .iload 4, .iload 4),
  (172, 1, .isub, .isub),
  (173, 1, .aload_n 0, .aload 0),
  (177, 3, .if_icmp .le 14, .if_icmp .le 191),
  (180, 1, .aload_n 0, .aload 0),
  (181, 2, .iload 6, .iload 6),
  (183, 1, .iconst 1, .iconst 1),
  (184, 1, .iadd, .iadd),
  (185, 2, .iload 4, .iload 4),
  (187, 1, .isub, .isub),
  (191, 1, .aload_n 0, .aload 0),
  (192, 1, .dup, .dup),
  (196, 1, .iconst 1, .iconst 1),
  (197, 1, .iadd, .iadd),
  (201, 1, .aload_n 0, .aload 0),
  (202, 1, .dup, .dup),
  (206, 1, .iconst 1, .iconst 1),
  (207, 1, .iadd, .iadd),
  (211, 2, .iload 6, .iload 6),
  (213, 1, .iconst 2, .iconst 2),
  (214, 1, .iadd, .iadd),
  (215, 2, .istore 4, .istore 4),
  (217, 1, .aload_n 0, .aload 0),
  (218, 2, .iload 4, .iload 4),
  (220, 2, .iload 8, .iload 8),
  (222, 1, .iadd, .iadd),
  (223, 2, .iload 7, .iload 7),
  (225, 1, .iadd, .iadd),
  (229, 2, .iload 8, .iload 8),
  (231, 1, .istore_n 2, .istore 2),
  (232, 3, .iinc 5 1, .iinc 5 1),
  (235, 3, .goto (-205), .goto 30),
  (238, 1, .aload_n 0, .aload 0),
  (239, 2, .iload 4, .iload 4),
  (244, 1, .return_, .return_)]
def lk_142 : List (Nat × Nat × Instr × Instr) := [(11, 3, .invokevirtual 296, .invokevirtual 143),
  (38, 3, .getfield 25, .getfield 262),
  (45, 3, .getfield 86, .getfield 256),
  (55, 3, .invokevirtual 299, .invokevirtual 144),
  (69, 3, .getfield 25, .getfield 262),
  (115, 3, .invokevirtual 296, .invokevirtual 143),
  (118, 3, .invokevirtual 290, .invokevirtual 137),
  (147, 3, .invokevirtual 290, .invokevirtual 137),
  (163, 3, .invokevirtual 290, .invokevirtual 137),
  (174, 3, .getfield 31, .getfield 264),
  (188, 3, .putfield 31, .putfield 264),
  (193, 3, .getfield 28, .getfield 263),
  (198, 3, .putfield 28, .putfield 263),
  (203, 3, .getfield 34, .getfield 265),
  (208, 3, .putfield 34, .putfield 265),
  (226, 3, .putfield 25, .putfield 262),
  (241, 3, .invokevirtual 302, .invokevirtual 138)]
def cd_142 : List (Nat × Nat × Instr × Instr) := sp_142 ++ lk_142
def sp_143 : List (Nat × Nat × Instr × Instr) := [(0, 1, .aload_n 0, .aload 0),
  (4, 1, .iload_n 1, .iload 1),
  (5, 1, .iconst 4, .iconst 4),
  (6, 1, .idiv, .idiv),
  (7, 1, .iaload, .iaload),
  (8, 2, .bipush 8, .iconst 8),
  (10, 1, .iload_n 1, .iload 1),
  (11, 1, .iconst 4, .iconst 4),
  (12, 1, .irem, .irem),
  (13, 1, .imul, .imul),
  (14, 1, .ishr, .ishr),
  (15, 3, .sipush 255, .iconst 255),
  (18, 1, .iand, .iand),
  (19, 1, .ireturn, .ireturn)]
def lk_143 : List (Nat × Nat × Instr × Instr) := [(1, 3, .getfield 54, .getfield 271)]
def cd_143 : List (Nat × Nat × Instr × Instr) := sp_143 ++ lk_143
def sp_144 : List (Nat × Nat × Instr × Instr) := [(0, 1, .iconst (-1), .iconst (-1)),
  (1, 1, .istore_n 3, .istore 3),
  (2, 1, .iconst 0, .iconst 0),
  (3, 2, .istore 4, .istore 4),
  (5, 1, .iload_n 1, .iload 1),
  (6, 2, .istore 5, .istore 5),
  (8, 2, .iload 5, .iload 5),
  (10, 1, .aload_n 0, .aload 0),
  (14, 3, .if_icmp .ge 127, .if_icmp .ge 141),
  (17, 1, .aload_n 0, .aload 0),
  (18, 2, .iload 5, .iload 5),
  (23, 2, .istore 6, .istore 6),
  (25, 2, .iload 4, .iload 4),
  (27, 3, .ifCond .eq 16, .ifCond .eq 43),
  (30, 2, .iload 6, .iload 6),
  (32, 2, .bipush 92, .iconst 92),
  (34, 3, .if_icmp .ne 9, .if_icmp .ne 43),
  (37, 3, .iinc 5 1, .iinc 5 1),
  (40, 3, .goto 95, .goto 135),
  (43, 2, .iload 4, .iload 4),
  (45, 3, .ifCond .eq 16, .ifCond .eq 61),
  (48, 2, .iload 6, .iload 6),
  (50, 2, .iload 4, .iload 4),
  (52, 3, .if_icmp .ne 83, .if_icmp .ne 135),
  (55, 1, .iconst 0, .iconst 0),
  (56, 2, .istore 4, .istore 4),
  (58, 3, .goto 77, .goto 135),
  (61, 2, .iload 6, .iload 6),
  (63, 2, .bipush 34, .iconst 34),
  (65, 3, .if_icmp .eq 10, .if_icmp .eq 75),
  (68, 2, .iload 6, .iload 6),
  (70, 2, .bipush 39, .iconst 39),
  (72, 3, .if_icmp .ne 10, .if_icmp .ne 82),
  (75, 2, .iload 6, .iload 6),
  (77, 2, .istore 4, .istore 4),
  (79, 3, .goto 56, .goto 135),
  (82, 2, .iload 6, .iload 6),
  (84, 2, .bipush 44, .iconst 44),
  (86, 3, .if_icmp .ne 49, .if_icmp .ne 135),
  (89, 2, .iload 5, .iload 5),
  (91, 1, .iconst 1, .iconst 1),
  (92, 1, .iadd, .iadd),
  (93, 1, .aload_n 0, .aload 0),
  (97, 3, .if_icmp .ge 38, .if_icmp .ge 135),
  (100, 1, .aload_n 0, .aload 0),
  (101, 2, .iload 5, .iload 5),
  (103, 1, .iconst 1, .iconst 1),
  (104, 1, .iadd, .iadd),
  (108, 2, .bipush 32, .iconst 32),
  (110, 3, .if_icmp .ne 25, .if_icmp .ne 135),
  (113, 2, .iload 5, .iload 5),
  (115, 1, .iload_n 1, .iload 1),
  (116, 1, .isub, .isub),
  (117, 1, .aload_n 0, .aload 0),
  (121, 3, .if_icmp .ge 14, .if_icmp .ge 135),
  (124, 2, .iload 5, .iload 5),
  (126, 1, .iload_n 1, .iload 1),
  (127, 1, .isub, .isub),
  (128, 1, .iload_n 2, .iload 2),
  (129, 3, .if_icmp .le 6, .if_icmp .le 135),
  (132, 2, .iload 5, .iload 5),
  (134, 1, .istore_n 3, .istore 3),
  (135, 3, .iinc 5 1, .iinc 5 1),
  (138, 3, .goto (-130), .goto 8),
  (141, 1, .iload_n 3, .iload 3),
  (142, 1, .ireturn, .ireturn)]
def lk_144 : List (Nat × Nat × Instr × Instr) := [(11, 3, .getfield 25, .getfield 262),
  (20, 3, .invokevirtual 296, .invokevirtual 143),
  (94, 3, .getfield 25, .getfield 262),
  (105, 3, .invokevirtual 296, .invokevirtual 143),
  (118, 3, .getfield 86, .getfield 256)]
def cd_144 : List (Nat × Nat × Instr × Instr) := sp_144 ++ lk_144
def sp_145 : List (Nat × Nat × Instr × Instr) := [(0, 1, .iload_n 1, .iload 1),
  (1, 3, .ifCond .lt 11, .ifCond .lt 12),
  (4, 1, .iload_n 1, .iload 1),
  (5, 1, .aload_n 0, .aload 0),
  (9, 3, .if_icmp .lt 7, .if_icmp .lt 16),
  (12, 1, .iconst (-1), .iconst (-1)),
  (13, 3, .goto 8, .goto 21),
  (16, 1, .aload_n 0, .aload 0),
  (17, 1, .iload_n 1, .iload 1),
  (21, 1, .ireturn, .ireturn)]
def lk_145 : List (Nat × Nat × Instr × Instr) := [(6, 3, .getfield 25, .getfield 262),
  (18, 3, .invokevirtual 296, .invokevirtual 143)]
def cd_145 : List (Nat × Nat × Instr × Instr) := sp_145 ++ lk_145
def sp_146 : List (Nat × Nat × Instr × Instr) := [(0, 1, .iload_n 1, .iload 1),
  (1, 3, .ifCond .lt 11, .ifCond .lt 12),
  (4, 1, .iload_n 1, .iload 1),
  (5, 1, .aload_n 0, .aload 0),
  (9, 3, .if_icmp .lt 5, .if_icmp .lt 14),
  (12, 1, .iconst (-1), .iconst (-1)),
  (13, 1, .ireturn, .ireturn),
  (14, 1, .iload_n 1, .iload 1),
  (15, 1, .istore_n 2, .istore 2),
  (16, 1, .iconst 0, .iconst 0),
  (17, 1, .istore_n 3, .istore 3),
  (18, 1, .iload_n 2, .iload 2),
  (19, 3, .ifCond .le 22, .ifCond .le 41),
  (22, 1, .aload_n 0, .aload 0),
  (23, 1, .iload_n 3, .iload 3),
  (27, 2, .bipush 10, .iconst 10),
  (29, 3, .if_icmp .ne 6, .if_icmp .ne 35),
  (32, 3, .iinc 2 (-1), .iinc 2 (-1)),
  (35, 3, .iinc 3 1, .iinc 3 1),
  (38, 3, .goto (-20), .goto 18),
  (41, 1, .iload_n 3, .iload 3),
  (42, 1, .ireturn, .ireturn)]
def lk_146 : List (Nat × Nat × Instr × Instr) := [(6, 3, .getfield 28, .getfield 263),
  (24, 3, .invokevirtual 296, .invokevirtual 143)]
def cd_146 : List (Nat × Nat × Instr × Instr) := sp_146 ++ lk_146
def sp_147 : List (Nat × Nat × Instr × Instr) := [(0, 1, .iconst 0, .iconst 0),
  (1, 1, .istore_n 2, .istore 2),
  (2, 1, .iconst 0, .iconst 0),
  (3, 1, .istore_n 3, .istore 3),
  (4, 1, .iload_n 3, .iload 3),
  (5, 1, .aload_n 0, .aload 0),
  (9, 3, .if_icmp .ge 21, .if_icmp .ge 30),
  (12, 1, .aload_n 0, .aload 0),
  (16, 1, .iload_n 3, .iload 3),
  (17, 1, .baload, .baload),
  (18, 3, .ifCond .eq 6, .ifCond .eq 24),
  (21, 3, .iinc 2 1, .iinc 2 1),
  (24, 3, .iinc 3 1, .iinc 3 1),
  (27, 3, .goto (-23), .goto 4),
  (30, 1, .iload_n 1, .iload 1),
  (31, 3, .ifCond .ne 10, .ifCond .ne 41),
  (34, 1, .aload_n 0, .aload 0),
  (38, 3, .goto 87, .goto 125),
  (41, 1, .iload_n 1, .iload 1),
  (42, 1, .iconst 1, .iconst 1),
  (43, 3, .if_icmp .ne 10, .if_icmp .ne 53),
  (46, 1, .aload_n 0, .aload 0),
  (50, 3, .goto 75, .goto 125),
  (53, 1, .iload_n 1, .iload 1),
  (54, 1, .iconst 2, .iconst 2),
  (55, 3, .if_icmp .ne 10, .if_icmp .ne 65),
  (58, 1, .aload_n 0, .aload 0),
  (62, 3, .goto 63, .goto 125),
  (65, 1, .iload_n 1, .iload 1),
  (66, 1, .iconst 3, .iconst 3),
  (67, 3, .if_icmp .ne 10, .if_icmp .ne 77),
  (70, 1, .aload_n 0, .aload 0),
  (74, 3, .goto 51, .goto 125),
  (77, 1, .iload_n 1, .iload 1),
  (78, 1, .iconst 4, .iconst 4),
  (79, 3, .if_icmp .ne 10, .if_icmp .ne 89),
  (82, 1, .aload_n 0, .aload 0),
  (86, 3, .goto 39, .goto 125),
  (89, 1, .iload_n 1, .iload 1),
  (90, 1, .iconst 5, .iconst 5),
  (91, 3, .if_icmp .ne 10, .if_icmp .ne 101),
  (94, 1, .aload_n 0, .aload 0),
  (98, 3, .goto 27, .goto 125),
  (101, 1, .iload_n 1, .iload 1),
  (102, 2, .bipush 6, .iconst 6),
  (104, 3, .if_icmp .ne 10, .if_icmp .ne 114),
  (107, 1, .aload_n 0, .aload 0),
  (111, 3, .goto 14, .goto 125),
  (114, 1, .iload_n 1, .iload 1),
  (115, 2, .bipush 7, .iconst 7),
  (117, 3, .if_icmp .ne 7, .if_icmp .ne 124),
  (120, 1, .iload_n 2, .iload 2),
  (121, 3, .goto 4, .goto 125),
  (124, 1, .iconst (-1), .iconst (-1)),
  (125, 1, .ireturn, .ireturn)]
def lk_147 : List (Nat × Nat × Instr × Instr) := [(6, 3, .getfield 16, .getfield 259),
  (13, 3, .getfield 60, .getfield 273),
  (35, 3, .getfield 16, .getfield 259),
  (47, 3, .getfield 7, .getfield 257),
  (59, 3, .getfield 13, .getfield 258),
  (71, 3, .getfield 25, .getfield 262),
  (83, 3, .getfield 28, .getfield 263),
  (95, 3, .getfield 31, .getfield 264),
  (108, 3, .getfield 34, .getfield 265)]
def cd_147 : List (Nat × Nat × Instr × Instr) := sp_147 ++ lk_147
def sp_148 : List (Nat × Nat × Instr × Instr) := [(0, 1, .aload_n 0, .aload 0),
  (4, 1, .arraylength, .arraylength),
  (5, 1, .aload_n 0, .aload 0),
  (9, 1, .ishr, .ishr),
  (10, 1, .ireturn, .ireturn)]
def lk_148 : List (Nat × Nat × Instr × Instr) := [(1, 3, .getfield 9, .getfield 288),
  (6, 3, .invokevirtual 335, .invokevirtual 149)]
def cd_148 : List (Nat × Nat × Instr × Instr) := sp_148 ++ lk_148
def sp_149 : List (Nat × Nat × Instr × Instr) := [(3, 3, .ifCond .eq 10, .ifCond .eq 13),
  (6, 1, .aload_n 0, .aload 0),
  (10, 3, .goto 4, .goto 14),
  (13, 1, .iconst 1, .iconst 1),
  (14, 1, .ireturn, .ireturn)]
def lk_149 : List (Nat × Nat × Instr × Instr) := [(0, 3, .getstatic 38, .getstatic 0),
  (7, 3, .getfield 15, .getfield 289)]
def cd_149 : List (Nat × Nat × Instr × Instr) := sp_149 ++ lk_149
def sp_150 : List (Nat × Nat × Instr × Instr) := [(0, 1, .aload_n 0, .aload 0),
  (4, 3, .ifCond .eq 12, .ifCond .eq 16),
  (7, 1, .aload_n 0, .aload 0),
  (11, 1, .iload_n 1, .iload 1),
  (15, 1, .ireturn, .ireturn),
  (16, 1, .aload_n 0, .aload 0),
  (20, 1, .iload_n 1, .iload 1),
  (24, 1, .ireturn, .ireturn)]
def lk_150 : List (Nat × Nat × Instr × Instr) := [(1, 3, .invokevirtual 492, .invokevirtual 151),
  (8, 3, .getfield 9, .getfield 288),
  (12, 3, .invokestatic 495, .invokestatic 155),
  (17, 3, .getfield 9, .getfield 288)]
def cd_150 : List (Nat × Nat × Instr × Instr) := sp_150 ++ lk_150
def sp_151 : List (Nat × Nat × Instr × Instr) := [(3, 3, .ifCond .eq 14, .ifCond .eq 17),
  (6, 1, .aload_n 0, .aload 0),
  (10, 3, .ifCond .ne 7, .ifCond .ne 17),
  (13, 1, .iconst 1, .iconst 1),
  (14, 3, .goto 4, .goto 18),
  (17, 1, .iconst 0, .iconst 0),
  (18, 1, .ireturn, .ireturn)]
def lk_151 : List (Nat × Nat × Instr × Instr) := [(0, 3, .getstatic 38, .getstatic 0),
  (7, 3, .getfield 15, .getfield 289)]
def cd_151 : List (Nat × Nat × Instr × Instr) := sp_151 ++ lk_151
def sp_152 : List (Nat × Nat × Instr × Instr) := [(0, 1, .aload_n 0, .aload 0),
  (1, 1, .iload_n 1, .iload 1),
  (2, 1, .iconst 0, .iconst 0),
  (6, 1, .ireturn, .ireturn)]
def lk_152 : List (Nat × Nat × Instr × Instr) := [(3, 3, .invokevirtual 633, .invokevirtual 153)]
def cd_152 : List (Nat × Nat × Instr × Instr) := sp_152 ++ lk_152
def sp_153 : List (Nat × Nat × Instr × Instr) := [(0, 1, .aload_n 0, .aload 0),
  (4, 3, .ifCond .eq 19, .ifCond .eq 23),
  (7, 1, .aload_n 0, .aload 0),
  (11, 1, .iload_n 1, .iload 1),
  (12, 1, .iload_n 2, .iload 2),
  (13, 1, .aload_n 0, .aload 0),
  (20, 3, .goto 16, .goto 36),
  (23, 1, .aload_n 0, .aload 0),
  (27, 1, .iload_n 1, .iload 1),
  (28, 1, .iload_n 2, .iload 2),
  (29, 1, .aload_n 0, .aload 0),
  (36, 1, .ireturn, .ireturn)]
def lk_153 : List (Nat × Nat × Instr × Instr) := [(1, 3, .invokevirtual 492, .invokevirtual 151),
  (8, 3, .getfield 9, .getfield 288),
  (14, 3, .invokevirtual 505, .invokevirtual 148),
  (17, 3, .invokestatic 637, .invokestatic 156),
  (24, 3, .getfield 9, .getfield 288),
  (30, 3, .invokevirtual 505, .invokevirtual 148)]
def cd_153 : List (Nat × Nat × Instr × Instr) := sp_153 ++ lk_153
def sp_154 : List (Nat × Nat × Instr × Instr) := [(0, 1, .iload_n 0, .iload 0),
  (1, 1, .iload_n 1, .iload 1),
  (8, 1, .pop, .pop),
  (9, 1, .return_, .return_)]
def lk_154 : List (Nat × Nat × Instr × Instr) := [(2, 3, .getstatic 1053, .nop),
  (5, 3, .invokestatic 1059, .invokestatic 159)]
def cd_154 : List (Nat × Nat × Instr × Instr) := sp_154 ++ lk_154
def sp_155 : List (Nat × Nat × Instr × Instr) := [(0, 1, .iload_n 1, .iload 1),
  (1, 1, .aload_n 0, .aload 0),
  (2, 1, .arraylength, .arraylength),
  (6, 1, .aload_n 0, .aload 0),
  (7, 1, .iload_n 1, .iload 1),
  (8, 1, .baload, .baload),
  (9, 3, .sipush 255, .iconst 255),
  (12, 1, .iand, .iand),
  (13, 1, .i2c, .i2c),
  (14, 1, .ireturn, .ireturn)]
def lk_155 : List (Nat × Nat × Instr × Instr) := [(3, 3, .invokestatic 9, .invokestatic 154)]
def cd_155 : List (Nat × Nat × Instr × Instr) := sp_155 ++ lk_155
def sp_156 : List (Nat × Nat × Instr × Instr) := [(0, 1, .iload_n 1, .iload 1),
  (4, 3, .ifCond .ne 5, .ifCond .ne 9),
  (7, 1, .iconst (-1), .iconst (-1)),
  (8, 1, .ireturn, .ireturn),
  (9, 1, .iload_n 2, .iload 2),
  (10, 1, .iconst 0, .iconst 0),
  (14, 1, .istore_n 2, .istore 2),
  (15, 1, .iload_n 3, .iload 3),
  (16, 1, .aload_n 0, .aload 0),
  (17, 1, .arraylength, .arraylength),
  (21, 1, .istore_n 3, .istore 3),
  (22, 1, .iload_n 2, .iload 2),
  (23, 1, .iload_n 3, .iload 3),
  (24, 3, .if_icmp .lt 5, .if_icmp .lt 29),
  (27, 1, .iconst (-1), .iconst (-1)),
  (28, 1, .ireturn, .ireturn),
  (29, 1, .aload_n 0, .aload 0),
  (30, 1, .iload_n 1, .iload 1),
  (31, 1, .iload_n 2, .iload 2),
  (32, 1, .iload_n 3, .iload 3),
  (36, 1, .ireturn, .ireturn)]
def lk_156 : List (Nat × Nat × Instr × Instr) := [(1, 3, .invokestatic 88, .invokestatic 157),
  (11, 3, .invokestatic 92, .dadd),
  (18, 3, .invokestatic 38, .dsub),
  (33, 3, .invokestatic 95, .invokestatic 158)]
def cd_156 : List (Nat × Nat × Instr × Instr) := sp_156 ++ lk_156
def sp_157 : List (Nat × Nat × Instr × Instr) := [(0, 1, .iload_n 0, .iload 0),
  (1, 3, .ifCond .lt 14, .ifCond .lt 15),
  (4, 1, .iload_n 0, .iload 0),
  (5, 3, .sipush 255, .iconst 255),
  (8, 3, .if_icmp .gt 7, .if_icmp .gt 15),
  (11, 1, .iconst 1, .iconst 1),
  (12, 3, .goto 4, .goto 16),
  (15, 1, .iconst 0, .iconst 0),
  (16, 1, .ireturn, .ireturn)]
def lk_157 : List (Nat × Nat × Instr × Instr) := []
def cd_157 : List (Nat × Nat × Instr × Instr) := sp_157 ++ lk_157
def sp_158 : List (Nat × Nat × Instr × Instr) := [(0, 1, .iload_n 1, .iload 1),
  (1, 1, .i2b, .i2b),
  (2, 2, .istore 4, .istore 4),
  (4, 1, .iload_n 2, .iload 2),
  (5, 2, .istore 5, .istore 5),
  (7, 2, .iload 5, .iload 5),
  (9, 1, .iload_n 3, .iload 3),
  (10, 3, .if_icmp .ge 21, .if_icmp .ge 31),
  (13, 1, .aload_n 0, .aload 0),
  (14, 2, .iload 5, .iload 5),
  (16, 1, .baload, .baload),
  (17, 2, .iload 4, .iload 4),
  (19, 3, .if_icmp .ne 6, .if_icmp .ne 25),
  (22, 2, .iload 5, .iload 5),
  (24, 1, .ireturn, .ireturn),
  (25, 3, .iinc 5 1, .iinc 5 1),
  (28, 3, .goto (-21), .goto 7),
  (31, 1, .iconst (-1), .iconst (-1)),
  (32, 1, .ireturn, .ireturn)]
def lk_158 : List (Nat × Nat × Instr × Instr) := []
def cd_158 : List (Nat × Nat × Instr × Instr) := sp_158 ++ lk_158
def sp_159 : List (Nat × Nat × Instr × Instr) := [(0, 1, .iload_n 0, .iload 0),
  (1, 3, .ifCond .lt 8, .ifCond .lt 9),
  (4, 1, .iload_n 0, .iload 0),
  (5, 1, .iload_n 1, .iload 1),
  (6, 3, .if_icmp .lt 10, .if_icmp .lt 16),
  (9, 1, .aload_n 2, .aload 2),
  (10, 1, .iload_n 0, .iload 0),
  (11, 1, .iload_n 1, .iload 1),
  (16, 1, .iload_n 0, .iload 0),
  (17, 1, .ireturn, .ireturn)]
def lk_159 : List (Nat × Nat × Instr × Instr) := []
def cd_159 : List (Nat × Nat × Instr × Instr) := sp_159 ++ lk_159
def cdl : List (List (Nat × Nat × Instr × Instr)) := [cd_0, cd_1, cd_2, cd_3, cd_4, cd_5, cd_6, cd_7, cd_8, cd_9, cd_10, cd_11, cd_12, cd_13, cd_14, cd_15, cd_16, cd_17, cd_18, cd_19, cd_20, cd_21, cd_22, cd_23, cd_24, cd_25, cd_26, cd_27, cd_28, cd_29, cd_30, cd_31, cd_32, cd_33, cd_34, cd_35, cd_36, cd_37, cd_38, cd_39, cd_40, cd_41, cd_42, cd_43, cd_44, cd_45, cd_46, cd_47, cd_48, cd_49, cd_50, cd_51, cd_52, cd_53, cd_54, cd_55, cd_56, cd_57, cd_58, cd_59, cd_60, cd_61, cd_62, cd_63, cd_64, cd_65, cd_66, cd_67, cd_68, cd_69, cd_70, cd_71, cd_72, cd_73, cd_74, cd_75, cd_76, cd_77, cd_78, cd_79, cd_80, cd_81, cd_82, cd_83, cd_84, cd_85, cd_86, cd_87, cd_88, cd_89, cd_90, cd_91, cd_92, cd_93, cd_94, cd_95, cd_96, cd_97, cd_98, cd_99, cd_100, cd_101, cd_102, cd_103, cd_104, cd_105, cd_106, cd_107, cd_108, cd_109, cd_110, cd_111, cd_112, cd_113, cd_114, cd_115, cd_116, cd_117, cd_118, cd_119, cd_120, cd_121, cd_122, cd_123, cd_124, cd_125, cd_126, cd_127, cd_128, cd_129, cd_130, cd_131, cd_132, cd_133, cd_134, cd_135, cd_136, cd_137, cd_138, cd_139, cd_140, cd_141, cd_142, cd_143, cd_144, cd_145, cd_146, cd_147, cd_148, cd_149, cd_150, cd_151, cd_152, cd_153, cd_154, cd_155, cd_156, cd_157, cd_158, cd_159]
def rcl (c : List (Nat × Nat × Instr × Instr)) (pc : Nat) : Option (Instr × Nat) := match c with
  | [] => none
  | (p, n, _, i) :: r => match Nat.beq p pc with
    | true => some (i, n)
    | false => rcl r pc
def rc (mid pc : Nat) : Option (Instr × Nat) := match cdl[mid]? with
  | some c => rcl c pc
  | none => none
end
section
/-! THE ABSTRACT MACHINE: resolved instructions over a list of cells; a reference is a place in that list. Tables (rc, mN, mB, mL, mR, mA, mC, cN, cT, cS, cF, zV ..) stand in 01.names. -/
abbrev AC : Type := (FieldType ⊕ Nat) × List Value
abbrev AH : Type := List AC
abbrev AL : Type := List (Option Value)
abbrev AS : Type := Nat × AL × List Value × AH
/-- a variable -/
def am_get (ls : AL) (i : Nat) : Option Value := match ls[i]? with
  | some (some v) => some v
  | _ => none
/-- the word before a stored one: half of a long goes -/
def am_kill : Option Value → Option Value
  | some (.long _) => none
  | some (.double _) => none
  | x => x
def am_kl (ls : AL) (j : Nat) : AL := match ls[j]? with
  | some o => ls.set j (am_kill o)
  | none => ls
def am_st1 (ls : AL) (i : Nat) (v : Value) : AL := match i with
  | 0 => ls.set 0 (some v)
  | j + 1 => (am_kl ls j).set (j + 1) (some v)
def am_st2 (ls : AL) (i : Nat) (v : Value) : AL := (am_st1 ls i v).set (i + 1) none
/-- arguments as variables -/
def am_en (as : List Value) : AL := as.flatMap fun v => if v.category = 2 then [some v, none] else [some v]
def am_entry (n : Nat) (as : List Value) : AL := am_en as ++ List.replicate (n - (am_en as).length) none
/-- the size of a heap, in fields and elements -/
def am_sz (h : AH) : Nat := (h.map fun c => c.2.length).sum
def am_cat (st : List Value) : Nat := (st.map fun v => v.category).sum
-- stack functions
def am_i (f : Int32 → Value) : List Value → Option (List Value)
  | .int x :: r => some (f x :: r)
  | _ => none
def am_l (f : Int64 → Value) : List Value → Option (List Value)
  | .long x :: r => some (f x :: r)
  | _ => none
def am_f (f : UInt32 → Value) : List Value → Option (List Value)
  | .float x :: r => some (f x :: r)
  | _ => none
def am_ii (f : Int32 → Int32 → Value) : List Value → Option (List Value)
  | .int y :: .int x :: r => some (f x y :: r)
  | _ => none
def am_ll (f : Int64 → Int64 → Value) : List Value → Option (List Value)
  | .long y :: .long x :: r => some (f x y :: r)
  | _ => none
def am_li (f : Int64 → Int32 → Value) : List Value → Option (List Value)
  | .int y :: .long x :: r => some (f x y :: r)
  | _ => none
def am_iid (f : Int32 → Int32 → Value) : List Value → Option (List Value)
  | .int y :: .int x :: r => if y = 0 then none else some (f x y :: r)
  | _ => none
def am_lld (f : Int64 → Int64 → Value) : List Value → Option (List Value)
  | .long y :: .long x :: r => if y = 0 then none else some (f x y :: r)
  | _ => none
def am_dup : List Value → Option (List Value)
  | a :: r => if a.category = 1 then some (a :: a :: r) else none
  | _ => none
def am_pop : List Value → Option (List Value)
  | a :: r => if a.category = 1 then some r else none
  | _ => none
def am_dupx1 : List Value → Option (List Value)
  | a :: b :: r => if a.category = 1 ∧ b.category = 1 then some (a :: b :: a :: r) else none
  | _ => none
def am_dupx2 : List Value → Option (List Value)
  | a :: b :: c :: r => if a.category = 1 ∧ b.category = 1 ∧ c.category = 1 then some (a :: b :: c :: a :: r) else none
  | _ => none
def am_dup2 : List Value → Option (List Value)
  | .long x :: r => some (.long x :: .long x :: r)
  | .int x :: .int y :: r => some (.int x :: .int y :: .int x :: .int y :: r)
  | .int x :: .ref y :: r => some (.int x :: .ref y :: .int x :: .ref y :: r)
  | _ => none
def am_c1 (c : ClassFile.Cond) (x : Int32) : Bool := match c with
  | .eq => decide (x = 0)
  | .ne => decide (¬ x = 0)
  | .lt => decide (x < 0)
  | .ge => decide (0 ≤ x)
  | .gt => decide (0 < x)
  | .le => decide (x ≤ 0)
def am_c2 (c : ClassFile.Cond) (x y : Int32) : Bool := match c with
  | .eq => decide (x = y)
  | .ne => decide (¬ x = y)
  | .lt => decide (x < y)
  | .ge => decide (y ≤ x)
  | .gt => decide (y < x)
  | .le => decide (x ≤ y)
/-- a branch: its new place and stack -/
def am_br (i : Instr) (nx : Nat) : List Value → Option (Nat × List Value)
  | st => match i with
    | .goto t => some (t.toNat, st)
    | .ifCond c t => (match st with
      | .int x :: r => some (if am_c1 c x then t.toNat else nx, r)
      | _ => none)
    | .if_icmp c t => (match st with
      | .int y :: .int x :: r => some (if am_c2 c x y then t.toNat else nx, r)
      | _ => none)
    | .ifnull t => (match st with
      | .null :: r => some (t.toNat, r)
      | .ref _ :: r => some (nx, r)
      | _ => none)
    | .ifnonnull t => (match st with
      | .null :: r => some (nx, r)
      | .ref _ :: r => some (t.toNat, r)
      | _ => none)
    | .lookupswitch d ps => (match st with
      | .int x :: r => some ((Op.lookupswitch.offset ps.toList d x.toInt).toNat, r)
      | _ => none)
    | _ => none
/-- a value in an array -/
def am_ald (ok : FieldType → Bool) (h : AH) : List Value → Option (List Value)
  | .int i :: .ref r :: rest => (match h[r]? with
    | some (.inl ty, vs) => if ok ty = true ∧ ¬ i < 0 then (match vs[i.toNatClampNeg]? with
      | some v => some (v :: rest)
      | none => none) else none
    | _ => none)
  | _ => none
/-- a place in an array that may be written -/
def am_ast (ok : FieldType → Bool) (h : AH) (r : Nat) (i : Int32) (v : FieldType → Value) : Option AH :=
  match h[r]? with
  | some (.inl ty, vs) => if ok ty = true ∧ ¬ i < 0 ∧ i.toNatClampNeg < vs.length ∧ sN ≤ r then some (h.set r (.inl ty, vs.set i.toNatClampNeg (v ty))) else none
  | _ => none
def am_isI (ty : FieldType) : Bool := match ty with
  | .int => true
  | _ => false
def am_isB (ty : FieldType) : Bool := match ty with
  | .byte => true
  | .boolean => true
  | _ => false
def am_isC (ty : FieldType) : Bool := match ty with
  | .char => true
  | _ => false
def am_isJ (ty : FieldType) : Bool := match ty with
  | .long => true
  | _ => false
def am_isO (ty : FieldType) : Bool := match ty with
  | .object _ => true
  | _ => false
/-- what a copy leaves -/
def am_cp (f g : List Value) (sp dp n : Nat) : List Value := g.take dp ++ (f.drop sp).take n ++ g.drop (dp + n)
def am_prim (ty : FieldType) : Bool := match ty with
  | .object _ => false
  | .array _ => false
  | _ => true
def am_copy (d : Nat) (h : AH) : List Value → Option (List Value × AH)
  | .int n :: .int dp :: .ref b :: .int sp :: .ref a :: rest => (match h[a]?, h[b]? with
    | some (.inl t0, f), some (.inl t1, g) =>
      if 1 ≤ d ∧ am_cat rest ≤ 8 ∧ t0 = t1 ∧ am_prim t0 = true ∧ ¬ n < 0 ∧ ¬ dp < 0 ∧ ¬ sp < 0 ∧ sp.toNatClampNeg + n.toNatClampNeg ≤ f.length ∧ dp.toNatClampNeg + n.toNatClampNeg ≤ g.length ∧ sN ≤ b then
        some (rest, h.set b (.inl t1, am_cp f g sp.toNatClampNeg dp.toNatClampNeg n.toNatClampNeg)) else none
    | _, _ => none)
  | _ => none
/-- a field's class and place -/
def am_fc (e : Nat) : Nat := e / 32
def am_fk (e : Nat) : Nat := e % 32
def am_getf (e : Nat) (h : AH) : List Value → Option (List Value)
  | .ref r :: rest => (match h[r]? with
    | some (.inr ci, fs) => if ci = am_fc e then (match fs[am_fk e]? with
      | some v => some (v :: rest)
      | none => none) else none
    | _ => none)
  | _ => none
def am_putf (e : Nat) (h : AH) : List Value → Option (List Value × AH)
  | v :: .ref r :: rest => (match h[r]? with
    | some (.inr ci, fs) => if ci = am_fc e ∧ am_fk e < fs.length ∧ sN ≤ r ∧ narrow (cF ci (am_fk e)) v = v ∧ fits (cF ci (am_fk e)) v = true then some (rest, h.set r (.inr ci, fs.set (am_fk e) v)) else none
    | _ => none)
  | _ => none
/-- a return: the answer -/
def am_ret (i : Instr) (st : List Value) : Option (Option Value) := match i with
  | .return_ => (match st with
    | [] => some none
    | _ => none)
  | .ireturn => (match st with
    | [.int v] => some (some (.int v))
    | _ => none)
  | .lreturn => (match st with
    | [.long v] => some (some (.long v))
    | _ => none)
  | .areturn => (match st with
    | [.ref v] => some (some (.ref v))
    | [.null] => some (some .null)
    | _ => none)
  | _ => none
/-- a call: the method, its arguments (the receiver first), the stack below -/
def am_call (i : Instr) (st : List Value) : Option (Nat × List Value × List Value) := match i with
  | .invokestatic cm => some (cm, (st.take (mA cm)).reverse, st.drop (mA cm))
  | .invokespecial cm => some (cm, (st.take (mA cm + 1)).reverse, st.drop (mA cm + 1))
  | .invokevirtual cm => some (cm, (st.take (mA cm + 1)).reverse, st.drop (mA cm + 1))
  | _ => none
/-- may it be called so? -/
def am_ok (i : Instr) (cm : Nat) (as rest : List Value) (h : AH) : Bool := match i with
  | .invokestatic _ => decide (as.length = mA cm ∧ (am_en as).length ≤ mL cm ∧ am_cat rest ≤ 8)
  | .invokespecial _ => (match as with
    | .ref _ :: _ => decide (as.length = mA cm + 1 ∧ (am_en as).length ≤ mL cm ∧ am_cat rest ≤ 8)
    | _ => false)
  | .invokevirtual _ => (match as with
    | .ref r :: _ => (match h[r]? with
      | some (.inr ci, _) => decide (ci = mC cm ∧ as.length = mA cm + 1 ∧ (am_en as).length ≤ mL cm ∧ am_cat rest ≤ 8)
      | _ => false)
    | _ => false)
  | _ => false
/-- a step that is no call and no return -/
def am_nx (pc len : Nat) (ls : AL) (h : AH) (o : Option (List Value)) : Option AS := match o with
  | some st' => some (pc + len, ls, st', h)
  | none => none
def am_nh (pc len : Nat) (ls : AL) (o : Option (List Value × AH)) : Option AS := match o with
  | some (st', h') => some (pc + len, ls, st', h')
  | none => none
def am_as (pc len : Nat) (ls : AL) (rest : List Value) (o : Option AH) : Option AS := match o with
  | some h' => some (pc + len, ls, rest, h')
  | none => none
def am_step (d : Nat) (i : Instr) (len pc : Nat) (ls : AL) (st : List Value) (h : AH) : Option AS := match i with
  | .aconst_null => am_nx pc len ls h (some (.null :: st))
  | .iconst n => am_nx pc len ls h (some (.int (Int32.ofInt n) :: st))
  | .ldc2_w n => am_nx pc len ls h (some (.long (Int64.ofNat n) :: st))
  | .ldc r => am_nx pc len ls h (some (.ref r :: st))
  | .nop => am_nx pc len ls h (some (.retAddr 0 :: st))
  | .getstatic k => am_nx pc len ls h (some (.int (zV k) :: st))
  | .iload j => (match am_get ls j with
    | some (.int x) => am_nx pc len ls h (some (.int x :: st))
    | _ => none)
  | .lload j => (match am_get ls j with
    | some (.long x) => am_nx pc len ls h (some (.long x :: st))
    | _ => none)
  | .aload j => (match am_get ls j with
    | some (.ref x) => am_nx pc len ls h (some (.ref x :: st))
    | some .null => am_nx pc len ls h (some (.null :: st))
    | _ => none)
  | .istore j => (match st with
    | .int x :: r => if j < ls.length then some (pc + len, am_st1 ls j (.int x), r, h) else none
    | _ => none)
  | .astore j => (match st with
    | .ref x :: r => if j < ls.length then some (pc + len, am_st1 ls j (.ref x), r, h) else none
    | .null :: r => if j < ls.length then some (pc + len, am_st1 ls j .null, r, h) else none
    | _ => none)
  | .lstore j => (match st with
    | .long x :: r => if j + 1 < ls.length then some (pc + len, am_st2 ls j (.long x), r, h) else none
    | _ => none)
  | .iinc j n => (match am_get ls j with
    | some (.int x) => if j < ls.length then some (pc + len, am_st1 ls j (.int (x + Int32.ofInt n)), st, h) else none
    | _ => none)
  | .iadd => am_nx pc len ls h (am_ii (fun x y => .int (x + y)) st)
  | .isub => am_nx pc len ls h (am_ii (fun x y => .int (x - y)) st)
  | .imul => am_nx pc len ls h (am_ii (fun x y => .int (x * y)) st)
  | .iand => am_nx pc len ls h (am_ii (fun x y => .int (x &&& y)) st)
  | .ior => am_nx pc len ls h (am_ii (fun x y => .int (x ||| y)) st)
  | .ixor => am_nx pc len ls h (am_ii (fun x y => .int (x ^^^ y)) st)
  | .ishl => am_nx pc len ls h (am_ii (fun x y => .int (x <<< (y &&& 31))) st)
  | .ishr => am_nx pc len ls h (am_ii (fun x y => .int (x >>> (y &&& 31))) st)
  | .iushr => am_nx pc len ls h (am_ii (fun x y => .int ((x.toUInt32 >>> (y.toUInt32 &&& Int32.toUInt32 31)).toInt32)) st)
  | .idiv => am_nx pc len ls h (am_iid (fun x y => .int (x / y)) st)
  | .irem => am_nx pc len ls h (am_iid (fun x y => .int (x - x / y * y)) st)
  | .ineg => am_nx pc len ls h (am_i (fun x => .int (-x)) st)
  | .ladd => am_nx pc len ls h (am_ll (fun x y => .long (x + y)) st)
  | .lsub => am_nx pc len ls h (am_ll (fun x y => .long (x - y)) st)
  | .lmul => am_nx pc len ls h (am_ll (fun x y => .long (x * y)) st)
  | .land => am_nx pc len ls h (am_ll (fun x y => .long (x &&& y)) st)
  | .lor => am_nx pc len ls h (am_ll (fun x y => .long (x ||| y)) st)
  | .lxor => am_nx pc len ls h (am_ll (fun x y => .long (x ^^^ y)) st)
  | .lcmp => am_nx pc len ls h (am_ll (fun x y => .int (lg_cmp x y)) st)
  | .ldiv => am_nx pc len ls h (am_lld (fun x y => .long (x / y)) st)
  | .lrem => am_nx pc len ls h (am_lld (fun x y => .long (x - x / y * y)) st)
  | .lneg => am_nx pc len ls h (am_l (fun x => .long (-x)) st)
  | .lshl => am_nx pc len ls h (am_li (fun x y => .long (x <<< (y.toInt64 &&& 63))) st)
  | .lshr => am_nx pc len ls h (am_li (fun x y => .long (x >>> (y.toInt64 &&& 63))) st)
  | .lushr => am_nx pc len ls h (am_li (fun x y => .long ((x.toUInt64 >>> (y.toInt64.toUInt64 &&& Int64.toUInt64 63)).toInt64)) st)
  | .i2l => am_nx pc len ls h (am_i (fun x => .long x.toInt64) st)
  | .l2i => am_nx pc len ls h (am_l (fun x => .int x.toInt32) st)
  | .i2b => am_nx pc len ls h (am_i (fun x => .int x.toInt8.toInt32) st)
  | .i2s => am_nx pc len ls h (am_i (fun x => .int x.toInt16.toInt32) st)
  | .i2c => am_nx pc len ls h (am_i (fun x => .int (x.toUInt32 % 65536).toInt32) st)
  | .i2f => am_nx pc len ls h (am_i (fun x => .float (FP.i2f x)) st)
  | .f2l => am_nx pc len ls h (am_f (fun x => .long (FP.f2l x)) st)
  | .dup => am_nx pc len ls h (am_dup st)
  | .pop => am_nx pc len ls h (am_pop st)
  | .dup_x1 => am_nx pc len ls h (am_dupx1 st)
  | .dup_x2 => am_nx pc len ls h (am_dupx2 st)
  | .dup2 => am_nx pc len ls h (am_dup2 st)
  | .iaload => am_nx pc len ls h (am_ald am_isI h st)
  | .baload => am_nx pc len ls h (am_ald am_isB h st)
  | .caload => am_nx pc len ls h (am_ald am_isC h st)
  | .laload => am_nx pc len ls h (am_ald am_isJ h st)
  | .aaload => am_nx pc len ls h (am_ald am_isO h st)
  | .arraylength => (match st with
    | .ref r :: rest => (match h[r]? with
      | some (.inl _, vs) => am_nx pc len ls h (some (.int (Int32.ofNat vs.length) :: rest))
      | _ => none)
    | _ => none)
  | .iastore => (match st with
    | .int x :: .int j :: .ref r :: rest => am_as pc len ls rest (am_ast am_isI h r j (fun _ => .int x))
    | _ => none)
  | .bastore => (match st with
    | .int x :: .int j :: .ref r :: rest => am_as pc len ls rest (am_ast am_isB h r j (fun ty => narrow ty (.int x)))
    | _ => none)
  | .castore => (match st with
    | .int x :: .int j :: .ref r :: rest => am_as pc len ls rest (am_ast am_isC h r j (fun ty => narrow ty (.int x)))
    | _ => none)
  | .lastore => (match st with
    | .long x :: .int j :: .ref r :: rest => am_as pc len ls rest (am_ast am_isJ h r j (fun _ => .long x))
    | _ => none)
  | .aastore => (match st with
    | .ref x :: .int j :: .ref r :: rest => (match h[x]? with
      | some (.inr ci, _) => am_as pc len ls rest (am_ast (fun ty => decide (ty = .object (cN ci))) h r j (fun _ => .ref x))
      | _ => none)
    | _ => none)
  | .getfield e => am_nx pc len ls h (am_getf e h st)
  | .putfield e => am_nh pc len ls (am_putf e h st)
  | .new ci => some (pc + len, ls, .ref h.length :: st, h ++ [(.inr ci, (List.range (cS ci)).map fun k => defaultValue (cF ci k))])
  | .newarray t => (match st with
    | .int n :: r => if ¬ n < 0 ∧ n.toNatClampNeg * componentBytes (newarray.typeOf t) ≤ 536870912 then some (pc + len, ls, .ref h.length :: r, h ++ [(.inl (newarray.typeOf t), List.replicate n.toNatClampNeg (defaultValue (newarray.typeOf t)))]) else none
    | _ => none)
  | .anewarray ci => (match st with
    | .int n :: r => if ¬ n < 0 ∧ n.toNatClampNeg * 4 ≤ 536870912 then some (pc + len, ls, .ref h.length :: r, h ++ [(.inl (.object (cN ci)), List.replicate n.toNatClampNeg .null)]) else none
    | _ => none)
  -- Math.max, Math.min, Math.abs
  | .dadd => (match st with
    | .int y :: .int x :: r => if 1 ≤ d ∧ am_cat r ≤ 8 then some (pc + len, ls, .int (if x < y then y else x) :: r, h) else none
    | _ => none)
  | .dsub => (match st with
    | .int y :: .int x :: r => if 1 ≤ d ∧ am_cat r ≤ 8 then some (pc + len, ls, .int (if y < x then y else x) :: r, h) else none
    | _ => none)
  | .dneg => (match st with
    | .long x :: r => if 1 ≤ d ∧ am_cat r ≤ 8 then some (pc + len, ls, .long (if 0 < x then x else -x) :: r, h) else none
    | _ => none)
  -- Object's constructor
  | .monitorenter => (match st with
    | .ref _ :: r => if 1 ≤ d ∧ am_cat r ≤ 8 then some (pc + len, ls, r, h) else none
    | _ => none)
  -- System.arraycopy
  | .monitorexit => am_nh pc len ls (am_copy d h st)
  | _ => (match am_br i (pc + len) st with
    | some (pc', st') => some (pc', ls, st', h)
    | none => none)
/-- may this method answer so? -/
def am_rv (v : Value) : Bool := match v with
  | .int _ => true
  | .long _ => true
  | .ref _ => true
  | .null => true
  | _ => false
def am_rok (t : Option FieldType) (r : Option Value) : Bool := match t, r with
  | none, none => true
  | some ty, some v => am_rv v && (decide (narrow ty v = v) && fits ty v)
  | _, _ => false
/-- the machine: depth of calls, steps, method, place -/
def am_run : Nat → Nat → Nat → Nat → AL → List Value → AH → Option (Option Value × AH)
  | _, 0, _, _, _, _, _ => none
  | d, n + 1, mid, pc, ls, st, h => match rc mid pc with
    | none => none
    | some (i, len) => match am_ret i st with
      | some r => if am_rok (mR mid) r = true then some (r, h) else none
      | none => match am_call i st with
        | some (cm, as, rest) => (match d with
          | 0 => none
          | d' + 1 => if am_ok i cm as rest h = true then (match am_run d' n cm 0 (am_entry (mL cm) as) [] h with
              | some (r, h1) => am_run (d' + 1) n mid (pc + len) ls (r.toList ++ rest) h1
              | none => none) else none)
        | none => match am_step d i len pc ls st h with
          | some (pc', ls', st', h') => am_run d n mid pc' ls' st' h'
          | none => none
end
section
/-! SOUNDNESS: what the abstract machine does, the machine does. -/
def sm_v (φ : (Nat → Nat) × Option Nat) : Value → Value
  | .ref r => .ref (φ.1 r)
  | .retAddr _ => va_rf φ.2
  | v => v
def sm_s (φ : (Nat → Nat) × Option Nat) (st : List Value) : List Value := st.map (sm_v φ)
theorem sm_cat (φ : (Nat → Nat) × Option Nat) (v : Value) : (sm_v φ v).category = v.category := by
  cases v with
  | retAddr _ => cases h : φ.2 <;> simp [sm_v, h, va_rf, Value.category]
  | _ => rfl
theorem sm_cats (φ : (Nat → Nat) × Option Nat) (st : List Value) : ((sm_s φ st).map fun v => v.category).sum = am_cat st := by
  unfold am_cat sm_s
  rw [List.map_map]
  congr 1
  apply List.map_congr_left
  intro v _
  exact sm_cat φ v
/-- variables as the kit lists them -/
def sm_al (φ : (Nat → Nat) × Option Nat) (ls : AL) : List (Nat × Value) := (List.range ls.length).filterMap fun i => (am_get ls i).map fun v => (i, sm_v φ v)
theorem am_get_lt {ls : AL} {i : Nat} {v : Value} (h : am_get ls i = some v) : i < ls.length := by
  unfold am_get at h
  cases hl : ls[i]? with
  | none => rw [hl] at h; cases h
  | some o => exact (List.getElem?_eq_some_iff.mp hl).1
theorem sm_al_mem {φ : (Nat → Nat) × Option Nat} {ls : AL} {q : Nat × Value} : q ∈ sm_al φ ls ↔ ∃ v, am_get ls q.1 = some v ∧ q.2 = sm_v φ v := by
  unfold sm_al
  rw [List.mem_filterMap]
  constructor
  · rintro ⟨i, hi, h⟩
    cases hv : am_get ls i with
    | none => rw [hv] at h; cases h
    | some v =>
      rw [hv] at h
      simp only [Option.map_some, Option.some.injEq] at h
      subst h
      exact ⟨v, hv, rfl⟩
  · rintro ⟨v, hv, hq⟩
    refine ⟨q.1, List.mem_range.mpr (am_get_lt hv), ?_⟩
    rw [hv]
    show some (q.1, sm_v φ v) = some q
    rw [← hq]
theorem sm_has {ls : Array Slot} {n : Nat} {l l' : List (Nat × Value)} (h : lv_has ls n l) (hm : ∀ q ∈ l', q ∈ l) : lv_has ls n l' := ⟨h.1, h.2.1, fun q hq => h.2.2 q (hm q hq)⟩
theorem am_kl_len (ls : AL) (j : Nat) : (am_kl ls j).length = ls.length := by
  unfold am_kl
  split <;> simp
theorem am_st1_len (ls : AL) (i : Nat) (v : Value) : (am_st1 ls i v).length = ls.length := by
  cases i <;> simp [am_st1, am_kl_len]
theorem am_st2_len (ls : AL) (i : Nat) (v : Value) : (am_st2 ls i v).length = ls.length := by
  simp [am_st2, am_st1_len]
theorem am_set_get {ls : AL} {i k : Nat} {o : Option Value} {w : Value} (h : am_get (ls.set i o) k = some w) : (k = i ∧ o = some w) ∨ (k ≠ i ∧ am_get ls k = some w) := by
  unfold am_get at h ⊢
  rw [List.getElem?_set] at h
  by_cases hk : i = k
  · rw [if_pos hk] at h
    by_cases hl : i < ls.length
    · rw [if_pos hl] at h
      cases o with
      | none => cases h
      | some v =>
        refine Or.inl ⟨hk.symm, ?_⟩
        exact h
    · rw [if_neg hl] at h
      cases h
  · rw [if_neg hk] at h
    exact Or.inr ⟨fun q => hk q.symm, h⟩
theorem am_kl_get {ls : AL} {j k : Nat} {w : Value} (h : am_get (am_kl ls j) k = some w) : am_get ls k = some w ∧ ¬ (k = j ∧ w.category = 2) := by
  unfold am_kl at h
  cases ho : ls[j]? with
  | none =>
    rw [ho] at h
    refine ⟨h, fun q => ?_⟩
    rw [q.1] at h
    unfold am_get at h
    rw [ho] at h
    cases h
  | some o =>
    rw [ho] at h
    rcases am_set_get h with ⟨h1, h2⟩ | ⟨h1, h2⟩
    · subst h1
      unfold am_get
      rw [ho]
      cases o with
      | none => cases h2
      | some v =>
        cases v with
        | long x => cases h2
        | double x => cases h2
        | _ =>
          cases h2
          exact ⟨rfl, fun q => absurd q.2 (by simp [Value.category])⟩
    · exact ⟨h2, fun q => h1 q.1⟩
theorem am_st1_get {ls : AL} {i k : Nat} {v w : Value} (h : am_get (am_st1 ls i v) k = some w) : (k = i ∧ w = v) ∨ (k ≠ i ∧ am_get ls k = some w ∧ ¬ (k + 1 = i ∧ w.category = 2)) := by
  cases i with
  | zero =>
    rcases am_set_get h with ⟨h1, h2⟩ | ⟨h1, h2⟩
    · exact Or.inl ⟨h1, (Option.some.inj h2).symm⟩
    · exact Or.inr ⟨h1, h2, fun q => by omega⟩
  | succ j =>
    rcases am_set_get h with ⟨h1, h2⟩ | ⟨h1, h2⟩
    · exact Or.inl ⟨h1, (Option.some.inj h2).symm⟩
    · obtain ⟨h3, h4⟩ := am_kl_get h2
      exact Or.inr ⟨h1, h3, fun q => h4 ⟨by omega, q.2⟩⟩
def sm_L (φ : (Nat → Nat) × Option Nat) (nL : Nat) (cls : Array Slot) (ls : AL) : Prop := ls.length = nL ∧ lv_has cls nL (sm_al φ ls)
theorem sm_L.get {φ : (Nat → Nat) × Option Nat} {nL i : Nat} {cls : Array Slot} {ls : AL} {v : Value} (h : sm_L φ nL cls ls) (hv : am_get ls i = some v) : cls[i]? = some (.val (sm_v φ v)) :=
  h.2.2.2 (i, sm_v φ v) (sm_al_mem.mpr ⟨v, hv, rfl⟩)
theorem sm_L.at {φ : (Nat → Nat) × Option Nat} {nL i : Nat} {cls : Array Slot} {ls : AL} {v : Value} (_ : sm_L φ nL cls ls) (hv : am_get ls i = some v) : ∃ k : Nat, (sm_al φ ls)[k]? = some (i, sm_v φ v) :=
  List.getElem?_of_mem (sm_al_mem.mpr ⟨v, hv, rfl⟩)
theorem sm_L.st1 {φ : (Nat → Nat) × Option Nat} {nL i : Nat} {cls cls' : Array Slot} {ls : AL} {v : Value} (h : sm_L φ nL cls ls) (h' : lv_has cls' nL ((i, sm_v φ v) :: (sm_al φ ls).filter (fun q => !(q.1 == i) && !(q.1 + 1 == i && q.2.category == 2)))) : sm_L φ nL cls' (am_st1 ls i v) := by
  refine ⟨(am_st1_len ls i v).trans h.1, sm_has h' fun q hq => ?_⟩
  obtain ⟨w, hw, e⟩ := sm_al_mem.mp hq
  rcases am_st1_get hw with ⟨h1, h2⟩ | ⟨h1, h2, h3⟩
  · subst h2
    rw [show q = (i, sm_v φ w) from Prod.ext h1 e]
    exact List.mem_cons_self
  · refine List.mem_cons_of_mem _ (List.mem_filter.mpr ⟨sm_al_mem.mpr ⟨w, h2, e⟩, ?_⟩)
    rw [e, sm_cat]
    simp only [Bool.and_eq_true, Bool.not_eq_true', beq_eq_false_iff_ne, Bool.and_eq_false_imp, beq_iff_eq, ne_eq]
    exact ⟨h1, fun q1 q2 => h3 ⟨q1, q2⟩⟩
theorem sm_L.st2 {φ : (Nat → Nat) × Option Nat} {nL i : Nat} {cls cls' : Array Slot} {ls : AL} {v : Value} (h : sm_L φ nL cls ls) (h' : lv_has cls' nL ((i, sm_v φ v) :: (sm_al φ ls).filter (fun q => !(q.1 == i) && (!(q.1 == i + 1) && !(q.1 + 1 == i && q.2.category == 2))))) : sm_L φ nL cls' (am_st2 ls i v) := by
  refine ⟨(am_st2_len ls i v).trans h.1, sm_has h' fun q hq => ?_⟩
  obtain ⟨w, hw, e⟩ := sm_al_mem.mp hq
  rcases am_set_get hw with ⟨-, h0⟩ | ⟨h0, hw⟩
  · cases h0
  rcases am_st1_get hw with ⟨h1, h2⟩ | ⟨h1, h2, h3⟩
  · subst h2
    rw [show q = (i, sm_v φ w) from Prod.ext h1 e]
    exact List.mem_cons_self
  · refine List.mem_cons_of_mem _ (List.mem_filter.mpr ⟨sm_al_mem.mpr ⟨w, h2, e⟩, ?_⟩)
    rw [e, sm_cat]
    simp only [Bool.and_eq_true, Bool.not_eq_true', beq_eq_false_iff_ne, Bool.and_eq_false_imp, beq_iff_eq, ne_eq]
    exact ⟨h1, h0, fun q1 q2 => h3 ⟨q1, q2⟩⟩
theorem am_en_len (φ : (Nat → Nat) × Option Nat) (vs : List Value) : (lg_sl (sm_s φ vs)).length = (am_en vs).length := by
  induction vs with
  | nil => rfl
  | cons v vs ih =>
    have e1 : lg_sl (sm_s φ (v :: vs)) = (if (sm_v φ v).category = 2 then [.val (sm_v φ v), .second] else [.val (sm_v φ v)]) ++ lg_sl (sm_s φ vs) := rfl
    have e2 : am_en (v :: vs) = (if v.category = 2 then [some v, none] else [some v]) ++ am_en vs := rfl
    rw [e1, e2, List.length_append, List.length_append, ih, sm_cat]
    by_cases h : v.category = 2 <;> simp [h]
theorem am_en_mem (φ : (Nat → Nat) × Option Nat) : ∀ (vs : List Value) (k i : Nat) (v : Value), (am_en vs)[i]? = some (some v) → (k + i, sm_v φ v) ∈ lv_args k (sm_s φ vs) := by
  intro vs
  induction vs with
  | nil => intro k i v h; simp [am_en] at h
  | cons a vs ih =>
    intro k i v h
    have e2 : am_en (a :: vs) = (if a.category = 2 then [some a, none] else [some a]) ++ am_en vs := rfl
    have e3 : lv_args k (sm_s φ (a :: vs)) = (k, sm_v φ a) :: lv_args (if (sm_v φ a).category = 2 then k + 2 else k + 1) (sm_s φ vs) := rfl
    rw [e2] at h
    rw [e3, sm_cat]
    by_cases hc : a.category = 2
    · rw [if_pos hc] at h ⊢
      match i, h with
      | 0, h =>
        simp at h
        subst h
        exact List.mem_cons_self
      | 1, h => simp at h
      | j + 2, h =>
        have h' : (am_en vs)[j]? = some (some v) := by simpa using h
        have := ih (k + 2) j v h'
        rw [show k + 2 + j = k + (j + 2) by omega] at this
        exact List.mem_cons_of_mem _ this
    · rw [if_neg hc] at h ⊢
      match i, h with
      | 0, h =>
        simp at h
        subst h
        exact List.mem_cons_self
      | j + 1, h =>
        have h' : (am_en vs)[j]? = some (some v) := by simpa using h
        have := ih (k + 1) j v h'
        rw [show k + 1 + j = k + (j + 1) by omega] at this
        exact List.mem_cons_of_mem _ this
theorem sm_entry (φ : (Nat → Nat) × Option Nat) {n : Nat} (vs : List Value) (hn : (am_en vs).length ≤ n) : sm_L φ n ((lg_sl (sm_s φ vs) ++ List.replicate (n - (lg_sl (sm_s φ vs)).length) Slot.unset).toArray) (am_entry n vs) := by
  refine ⟨by unfold am_entry; simp; omega, sm_has (lv_entry (sm_s φ vs) (n := n) (by rw [am_en_len]; exact hn)) fun q hq => ?_⟩
  obtain ⟨v, hv, e⟩ := sm_al_mem.mp hq
  unfold am_get am_entry at hv
  have h1 : (am_en vs)[q.1]? = some (some v) := by
    rw [List.getElem?_append] at hv
    by_cases hl : q.1 < (am_en vs).length
    · rw [if_pos hl] at hv
      cases ho : (am_en vs)[q.1]? with
      | none => rw [ho] at hv; cases hv
      | some o =>
        rw [ho] at hv
        cases o with
        | none => cases hv
        | some w => cases hv; rfl
    · rw [if_neg hl, List.getElem?_replicate] at hv
      split at hv
      · rename_i heq
        split at heq <;> cases heq
      · cases hv
  have h2 := am_en_mem φ vs 0 q.1 v h1
  rw [Nat.zero_add] at h2
  rw [show q = (q.1, sm_v φ v) from Prod.ext rfl e]
  exact h2
/-! words -/
def sm_wk (w : Cond) : Bool := (w.onTables && w.keeps) || (match w with
  | .arrayClass _ => true
  | .arrayOver (.object _) => true
  | .fieldLinkNest _ _ _ _ _ _ => true
  | .methodLinkNest _ _ _ _ => true
  | _ => false)
theorem sm_at {s0 s : State} {a0 args : Array Value} {w : Cond} (hW : s0.WarmedH s.vm) (hk : sm_wk w = true) (h : w.before a0 s0 = true) : w.before args s = true := by
  unfold sm_wk at hk
  rw [Bool.or_eq_true] at hk
  rcases hk with hk | hk
  · exact word_at hW (Or.inl hk) h
  · split at hk
    · exact word_at hW (Or.inr ⟨_, rfl⟩) h
    · exact (va_AO.moved hW.alike (va_AO.of h)).use
    · exact va_Nw.use rfl (va_Nw.warmF hW (va_Nw.of rfl h))
    · exact va_Nw.use rfl (va_Nw.warmM hW (va_Nw.of rfl h))
    · cases hk
/-- a word of the tables -/
def tw (w : Cond) : Prop := w ∈ lw_tbl ∧ sm_wk w = true
/-- array kinds -/
def sm_ak (s0 : State) (cA : ClassId) (ty : FieldType) : Prop := ∃ (kA : Class) (comp : ClassId), s0.vm.classes[cA]? = some kA ∧ kA.kind = .array comp ty ∧ ∀ C, ty = .object C → s0.vm.findClass C = some comp
theorem sm_ak.moved {s0 s : State} {cA : ClassId} {ty : FieldType} (hal : s0.vm.Alike s.vm) (h : sm_ak s0 cA ty) : sm_ak s cA ty := by
  obtain ⟨kA, comp, h1, h2, h3⟩ := h
  obtain ⟨k', hk', he⟩ := hal.2.2 _ _ h1
  exact ⟨k', comp, hk', by rw [he]; exact h2, fun C e => by rw [hal.findClass]; exact h3 C e⟩
theorem sm_ak.of {s : State} {cA : ClassId} {ty : FieldType} {cell : Cell} (h : sm_ak s cA ty) (hc : cell.cls = cA) (hv : ∀ k, cell.vm ≠ .statics k) : s.isArrayOf cell ty := by
  obtain ⟨kA, comp, h1, h2, -⟩ := h
  exact ⟨hv, kA, by rw [hc]; exact h1, comp, h2⟩
/-- a cell -/
def sm_C (s0 : State) (φ : (Nat → Nat) × Option Nat) (dC : Nat → ClassId) (dI : Nat → Nat → Nat) (r : Nat) (x : AC) (H : Heap) : Prop :=
  ∃ cell : Cell, H[φ.1 r]? = some cell ∧ cell.vm ≠ .unknown ∧ (∀ k, cell.vm ≠ .statics k) ∧ (sN ≤ r → cell.vm = .none) ∧ match x.1 with
    | .inl ty => sm_ak s0 cell.cls ty ∧ x.2.length ≤ cell.slots.size ∧ cell.slots.size.toInt32 = Int32.ofNat x.2.length ∧ (am_prim ty = true → ∀ v ∈ x.2, fits ty v = true) ∧ ∀ (j : Nat) (v : Value), x.2[j]? = some v → cell.slots[j]? = some (sm_v φ v)
    | .inr ci => ci < cAll ∧ cell.cls = dC ci ∧ x.2.length = cS ci ∧ ∀ (k : Nat) (v : Value), x.2[k]? = some v → cell.slots[dI ci k]? = some (sm_v φ v)
def sm_Z (s0 : State) (o : Option Nat) (B : Nat) (H : Heap) : Prop := (∀ k, k < zNn → va_Z (zC k) (zN k) (zD k) (.int (zV k)) (fun q => B ≤ q) s0 H) ∧ va_Z oC oN oD (va_rf o) (fun q => B ≤ q) s0 H
/-- a heap -/
def sm_H (s0 : State) (φ : (Nat → Nat) × Option Nat) (dC : Nat → ClassId) (dI : Nat → Nat → Nat) (B : Nat) (H : Heap) (h : AH) : Prop :=
  H.size + sN = B + h.length ∧ sN ≤ h.length ∧ (∀ (r : Nat) (x : AC), h[r]? = some x → sm_C s0 φ dC dI r x H) ∧ sm_Z s0 φ.2 B H
def sm_φ (φ : (Nat → Nat) × Option Nat) (B : Nat) : Prop := (∀ r, r < sN → φ.1 r < B) ∧ ∀ r, sN ≤ r → φ.1 r + sN = B + r
theorem sm_C.kept {s0 : State} {φ : (Nat → Nat) × Option Nat} {dC : Nat → ClassId} {dI : Nat → Nat → Nat} {r : Nat} {x : AC} {H H' : Heap} (h : sm_C s0 φ dC dI r x H) (hq : H'[φ.1 r]? = H[φ.1 r]?) : sm_C s0 φ dC dI r x H' := by
  obtain ⟨cell, h1, h2⟩ := h
  exact ⟨cell, hq.trans h1, h2⟩
theorem sm_C.lt {s0 : State} {φ : (Nat → Nat) × Option Nat} {dC : Nat → ClassId} {dI : Nat → Nat → Nat} {r : Nat} {x : AC} {H : Heap} (h : sm_C s0 φ dC dI r x H) : φ.1 r < H.size := by
  obtain ⟨cell, h1, -⟩ := h
  exact (Array.getElem?_eq_some_iff.mp h1).1
theorem sm_H.set {s0 : State} {φ : (Nat → Nat) × Option Nat} {dC : Nat → ClassId} {dI : Nat → Nat → Nat} {B r : Nat} {x : AC} {H H' : Heap} {h : AH} (hφ : sm_φ φ B) (hH : sm_H s0 φ dC dI B H h) (hr : sN ≤ r) (hz : H'.size = H.size) (ho : ∀ q, q ≠ φ.1 r → H'[q]? = H[q]?) (hx : sm_C s0 φ dC dI r x H') : sm_H s0 φ dC dI B H' (h.set r x) := by
  obtain ⟨h1, h2, h3, h4⟩ := hH
  have e := hφ.2 r hr
  refine ⟨by rw [hz, List.length_set]; exact h1, by rw [List.length_set]; exact h2, fun r' x' hx' => ?_, ⟨fun k hk => (h4.1 k hk).kept (fun a ha hA => ho a (fun q => hA (by omega))), h4.2.kept (fun a ha hA => ho a (fun q => hA (by omega)))⟩⟩
  rw [List.getElem?_set] at hx'
  by_cases hrr : r = r'
  · rw [if_pos hrr] at hx'
    split at hx'
    · cases hx'
      subst hrr
      exact hx
    · cases hx'
  · rw [if_neg hrr] at hx'
    refine (h3 r' x' hx').kept (ho _ fun q => ?_)
    by_cases hs : sN ≤ r'
    · have e' := hφ.2 r' hs
      omega
    · have e' := hφ.1 r' (by omega)
      omega
theorem sm_H.push {s0 : State} {φ : (Nat → Nat) × Option Nat} {dC : Nat → ClassId} {dI : Nat → Nat → Nat} {B : Nat} {x : AC} {H H' : Heap} {h : AH} (hφ : sm_φ φ B) (hH : sm_H s0 φ dC dI B H h) (hz : H'.size = H.size + 1) (ho : ∀ q, q < H.size → H'[q]? = H[q]?) (hx : sm_C s0 φ dC dI h.length x H') : sm_H s0 φ dC dI B H' (h ++ [x]) := by
  obtain ⟨h1, h2, h3, h4⟩ := hH
  refine ⟨by rw [hz, List.length_append, List.length_singleton]; omega, by rw [List.length_append]; omega, fun r' x' hx' => ?_, ⟨fun k hk => (h4.1 k hk).kept (fun a ha _ => ho a ha), h4.2.kept (fun a ha _ => ho a ha)⟩⟩
  rw [List.getElem?_append] at hx'
  by_cases hl : r' < h.length
  · rw [if_pos hl] at hx'
    have := h3 r' x' hx'
    exact this.kept (ho _ this.lt)
  · rw [if_neg hl] at hx'
    have hlt : r' - h.length < 1 := (List.getElem?_eq_some_iff.mp hx').1
    have e : r' = h.length := by omega
    subst e
    rw [Nat.sub_self] at hx'
    cases hx'
    exact hx
theorem sm_H.top {s0 : State} {φ : (Nat → Nat) × Option Nat} {dC : Nat → ClassId} {dI : Nat → Nat → Nat} {B : Nat} {H : Heap} {h : AH} (hφ : sm_φ φ B) (hH : sm_H s0 φ dC dI B H h) : φ.1 h.length = H.size := by
  have e := hφ.2 h.length hH.2.1
  have := hH.1
  omega
theorem sm_ff {s0 s : State} {C n d : String} {cf fi : Nat} {kf : Class} {f : Field} (hal : s0.vm.Alike s.vm) (h : s0.fieldFound? C n d = some (cf, kf, fi, f)) : ∃ kf', s.fieldFound? C n d = some (cf, kf', fi, f) := by
  obtain ⟨kf', hi', -⟩ := State.fieldFound?_setVm (s := s0) hal h
  exact ⟨kf', by simpa only [State.fieldFound?, State.vm_setVm] using hi'⟩
/-- what the tables say of the fields -/
def sm_K (s0 : State) (dC : Nat → ClassId) (dI : Nat → Nat → Nat) : Prop :=
  (∀ ci k, ci < cAll → k < cS ci → ∃ (cf : Nat) (kf : Class) (fi : Nat) (f : Field), s0.fieldFound? (cT ci k).1 (cT ci k).2.1 (cT ci k).2.2.1 = some (cf, kf, fi, f) ∧ f.slot = dI ci k ∧ f.isStatic = false) ∧
  (∀ ci, ci < cO → u_Kn s0 (cN ci) (cT ci) (cS ci) (dC ci) (dI ci)) ∧ (∀ ci, ci < cAll → s0.vm.findClass (cN ci) = some (dC ci))
theorem sm_fit {ty : FieldType} {v : Value} (φ : (Nat → Nat) × Option Nat) (h1 : narrow ty v = v) (h2 : fits ty v = true) : narrow ty (sm_v φ v) = sm_v φ v ∧ fits ty (sm_v φ v) = true := by
  cases v with
  | ref r => cases ty <;> simp_all [narrow, fits, sm_v]
  | retAddr r => cases ty <;> simp [fits] at h2
  | _ => exact ⟨h1, h2⟩
theorem sm_def (φ : (Nat → Nat) × Option Nat) (ty : FieldType) : sm_v φ (defaultValue ty) = defaultValue ty := by cases ty <;> rfl
theorem sm_prim_v {ty : FieldType} {v : Value} (φ : (Nat → Nat) × Option Nat) (hp : am_prim ty = true) (hf : fits ty v = true) : sm_v φ v = v := by
  cases v with
  | ref r => cases ty <;> simp_all [am_prim, fits]
  | retAddr r => cases ty <;> simp [fits] at hf
  | _ => rfl
theorem sm_clamp {z : Int32} (hz : ¬ z < 0) : z.toInt = (z.toNatClampNeg : Int) := by
  have hz0 : (0 : Int) ≤ z.toInt := by
    have := Int32.not_lt.mp hz
    simpa using Int32.le_iff_toInt_le.mp this
  show z.toInt = ((z.toInt.toNat : Nat) : Int)
  omega
theorem sm_locs {φ : (Nat → Nat) × Option Nat} {B r k : Nat} {locs : List Loc} (hφ : sm_φ φ B) (hr : sN ≤ r) (hq : ∀ q ∈ locs, B ≤ q.base) : ∀ q ∈ locs ++ [⟨φ.1 r, k⟩], B ≤ q.base := by
  intro q h
  rcases List.mem_append.mp h with h | h
  · exact hq q h
  · rw [List.mem_singleton.mp h]
    have := hφ.2 r hr
    show B ≤ φ.1 r
    omega
/-- a method that may be called -/
def sm_M (cm : Nat) : Prop := tw (.code (mN cm) (mB cm) (mL cm) (mR cm)) ∧ plainName (mN cm).cls = true ∧ ((mN cm).cls ≠ "java/lang/invoke/MethodHandle" ∧ (mN cm).cls ≠ "java/lang/invoke/VarHandle") ∧ (parseMethodDescriptor (mN cm).desc).map (fun d => d.parameters.length) = some (mA cm) ∧ tw (.initialized (mN cm).cls) ∧ mL cm + 19 ≤ kL
def sm_tab (pc : Nat) (lo : Int) (offs : List Int) : List (Int × Int) := offs.zipIdx.map fun q => (lo + (q.2 : Int), (pc : Int) + q.1)
end
section
/-! WORDS, by program -/
theorem tw_p0 : tw (.selects "TestEmitter" ⟨"TestEmitter", "takeTypedRow", "()LTestEmitter$TypeRow;"⟩ ⟨"TestEmitter", "takeTypedRow", "()LTestEmitter$TypeRow;"⟩) := ⟨List.mem_append_left _ (List.mem_map.mpr ⟨_, List.mem_of_getElem? (l := lw_privs) (i := 0) rfl, rfl⟩), by decide +kernel⟩
theorem tw_p1 : tw (.selects "TestEmitter$Builder" ⟨"TestEmitter$Builder", "buildRow", "(LTestEmitter$TypeRow;ILTestEmitter$Chars;)V"⟩ ⟨"TestEmitter$Builder", "buildRow", "(LTestEmitter$TypeRow;ILTestEmitter$Chars;)V"⟩) := ⟨List.mem_append_left _ (List.mem_map.mpr ⟨_, List.mem_of_getElem? (l := lw_privs) (i := 1) rfl, rfl⟩), by decide +kernel⟩
theorem tw_p2 : tw (.selects "TestEmitter$Builder" ⟨"TestEmitter$Builder", "build", "(LTestEmitter$Type;IILTestEmitter$Chars;)V"⟩ ⟨"TestEmitter$Builder", "build", "(LTestEmitter$Type;IILTestEmitter$Chars;)V"⟩) := ⟨List.mem_append_left _ (List.mem_map.mpr ⟨_, List.mem_of_getElem? (l := lw_privs) (i := 2) rfl, rfl⟩), by decide +kernel⟩
theorem tw_p3 : tw (.selects "TestEmitter$Builder" ⟨"TestEmitter$Builder", "buildArray", "(LTestEmitter$Type;IILTestEmitter$Chars;)V"⟩ ⟨"TestEmitter$Builder", "buildArray", "(LTestEmitter$Type;IILTestEmitter$Chars;)V"⟩) := ⟨List.mem_append_left _ (List.mem_map.mpr ⟨_, List.mem_of_getElem? (l := lw_privs) (i := 3) rfl, rfl⟩), by decide +kernel⟩
theorem tw_p4 : tw (.selects "TestEmitter$Type" ⟨"TestEmitter$Type", "elementName", "()Ljava/lang/String;"⟩ ⟨"TestEmitter$Type", "elementName", "()Ljava/lang/String;"⟩) := ⟨List.mem_append_left _ (List.mem_map.mpr ⟨_, List.mem_of_getElem? (l := lw_privs) (i := 4) rfl, rfl⟩), by decide +kernel⟩
theorem tw_p5 : tw (.selects "TestEmitter$Builder" ⟨"TestEmitter$Builder", "buildLong", "(LTestEmitter$Chars;)V"⟩ ⟨"TestEmitter$Builder", "buildLong", "(LTestEmitter$Chars;)V"⟩) := ⟨List.mem_append_left _ (List.mem_map.mpr ⟨_, List.mem_of_getElem? (l := lw_privs) (i := 5) rfl, rfl⟩), by decide +kernel⟩
theorem tw_p6 : tw (.selects "TestEmitter$Builder" ⟨"TestEmitter$Builder", "buildText", "(LTestEmitter$Chars;)V"⟩ ⟨"TestEmitter$Builder", "buildText", "(LTestEmitter$Chars;)V"⟩) := ⟨List.mem_append_left _ (List.mem_map.mpr ⟨_, List.mem_of_getElem? (l := lw_privs) (i := 6) rfl, rfl⟩), by decide +kernel⟩
theorem tw_p7 : tw (.selects "TestEmitter$Builder" ⟨"TestEmitter$Builder", "buildObject", "(IILTestEmitter$Chars;)V"⟩ ⟨"TestEmitter$Builder", "buildObject", "(IILTestEmitter$Chars;)V"⟩) := ⟨List.mem_append_left _ (List.mem_map.mpr ⟨_, List.mem_of_getElem? (l := lw_privs) (i := 7) rfl, rfl⟩), by decide +kernel⟩
theorem tw_p8 : tw (.selects "TestEmitter" ⟨"TestEmitter", "writeAssertion", "()V"⟩ ⟨"TestEmitter", "writeAssertion", "()V"⟩) := ⟨List.mem_append_left _ (List.mem_map.mpr ⟨_, List.mem_of_getElem? (l := lw_privs) (i := 8) rfl, rfl⟩), by decide +kernel⟩
theorem tw_p9 : tw (.selects "TestEmitter" ⟨"TestEmitter", "keepBody", "(Z)I"⟩ ⟨"TestEmitter", "keepBody", "(Z)I"⟩) := ⟨List.mem_append_left _ (List.mem_map.mpr ⟨_, List.mem_of_getElem? (l := lw_privs) (i := 9) rfl, rfl⟩), by decide +kernel⟩
theorem tw_p10 : tw (.selects "TestEmitter" ⟨"TestEmitter", "writeCatch", "()V"⟩ ⟨"TestEmitter", "writeCatch", "()V"⟩) := ⟨List.mem_append_left _ (List.mem_map.mpr ⟨_, List.mem_of_getElem? (l := lw_privs) (i := 10) rfl, rfl⟩), by decide +kernel⟩
theorem tw_p11 : tw (.selects "TestEmitter$Text" ⟨"TestEmitter$Text", "empty", "()V"⟩ ⟨"TestEmitter$Text", "empty", "()V"⟩) := ⟨List.mem_append_left _ (List.mem_map.mpr ⟨_, List.mem_of_getElem? (l := lw_privs) (i := 11) rfl, rfl⟩), by decide +kernel⟩
theorem tw_p12 : tw (.selects "TestEmitter$Text" ⟨"TestEmitter$Text", "writeLine", "(Ljava/lang/String;)V"⟩ ⟨"TestEmitter$Text", "writeLine", "(Ljava/lang/String;)V"⟩) := ⟨List.mem_append_left _ (List.mem_map.mpr ⟨_, List.mem_of_getElem? (l := lw_privs) (i := 12) rfl, rfl⟩), by decide +kernel⟩
theorem tw_p13 : tw (.selects "TestEmitter$Text" ⟨"TestEmitter$Text", "endLine", "()V"⟩ ⟨"TestEmitter$Text", "endLine", "()V"⟩) := ⟨List.mem_append_left _ (List.mem_map.mpr ⟨_, List.mem_of_getElem? (l := lw_privs) (i := 13) rfl, rfl⟩), by decide +kernel⟩
theorem tw_p14 : tw (.selects "TestEmitter$Text" ⟨"TestEmitter$Text", "writeBody", "(LTestEmitter$Chars;)V"⟩ ⟨"TestEmitter$Text", "writeBody", "(LTestEmitter$Chars;)V"⟩) := ⟨List.mem_append_left _ (List.mem_map.mpr ⟨_, List.mem_of_getElem? (l := lw_privs) (i := 14) rfl, rfl⟩), by decide +kernel⟩
theorem tw_p15 : tw (.selects "TestEmitter$Text" ⟨"TestEmitter$Text", "writeBroken", "(LTestEmitter$Chars;II)V"⟩ ⟨"TestEmitter$Text", "writeBroken", "(LTestEmitter$Chars;II)V"⟩) := ⟨List.mem_append_left _ (List.mem_map.mpr ⟨_, List.mem_of_getElem? (l := lw_privs) (i := 15) rfl, rfl⟩), by decide +kernel⟩
theorem tw_p16 : tw (.selects "TestEmitterModel" ⟨"TestEmitterModel", "takeRow", "(I)I"⟩ ⟨"TestEmitterModel", "takeRow", "(I)I"⟩) := ⟨List.mem_append_left _ (List.mem_map.mpr ⟨_, List.mem_of_getElem? (l := lw_privs) (i := 16) rfl, rfl⟩), by decide +kernel⟩
theorem tw_p17 : tw (.selects "TestEmitterModel" ⟨"TestEmitterModel", "typeEnd", "(I)I"⟩ ⟨"TestEmitterModel", "typeEnd", "(I)I"⟩) := ⟨List.mem_append_left _ (List.mem_map.mpr ⟨_, List.mem_of_getElem? (l := lw_privs) (i := 17) rfl, rfl⟩), by decide +kernel⟩
theorem tw_p18 : tw (.selects "TestEmitterModel" ⟨"TestEmitterModel", "plain", "(C)Z"⟩ ⟨"TestEmitterModel", "plain", "(C)Z"⟩) := ⟨List.mem_append_left _ (List.mem_map.mpr ⟨_, List.mem_of_getElem? (l := lw_privs) (i := 18) rfl, rfl⟩), by decide +kernel⟩
theorem tw_p19 : tw (.selects "TestEmitterModel" ⟨"TestEmitterModel", "call", "()V"⟩ ⟨"TestEmitterModel", "call", "()V"⟩) := ⟨List.mem_append_left _ (List.mem_map.mpr ⟨_, List.mem_of_getElem? (l := lw_privs) (i := 19) rfl, rfl⟩), by decide +kernel⟩
theorem tw_p20 : tw (.selects "TestEmitterModel" ⟨"TestEmitterModel", "word", "(J)V"⟩ ⟨"TestEmitterModel", "word", "(J)V"⟩) := ⟨List.mem_append_left _ (List.mem_map.mpr ⟨_, List.mem_of_getElem? (l := lw_privs) (i := 20) rfl, rfl⟩), by decide +kernel⟩
theorem tw_p21 : tw (.selects "TestEmitterModel" ⟨"TestEmitterModel", "put", "(I)V"⟩ ⟨"TestEmitterModel", "put", "(I)V"⟩) := ⟨List.mem_append_left _ (List.mem_map.mpr ⟨_, List.mem_of_getElem? (l := lw_privs) (i := 21) rfl, rfl⟩), by decide +kernel⟩
theorem tw_p22 : tw (.selects "TestEmitterModel" ⟨"TestEmitterModel", "planRow", "(I)V"⟩ ⟨"TestEmitterModel", "planRow", "(I)V"⟩) := ⟨List.mem_append_left _ (List.mem_map.mpr ⟨_, List.mem_of_getElem? (l := lw_privs) (i := 22) rfl, rfl⟩), by decide +kernel⟩
theorem tw_p23 : tw (.selects "TestEmitterModel" ⟨"TestEmitterModel", "plan", "(I)V"⟩ ⟨"TestEmitterModel", "plan", "(I)V"⟩) := ⟨List.mem_append_left _ (List.mem_map.mpr ⟨_, List.mem_of_getElem? (l := lw_privs) (i := 23) rfl, rfl⟩), by decide +kernel⟩
theorem tw_p24 : tw (.selects "TestEmitterModel" ⟨"TestEmitterModel", "writeList", "()V"⟩ ⟨"TestEmitterModel", "writeList", "()V"⟩) := ⟨List.mem_append_left _ (List.mem_map.mpr ⟨_, List.mem_of_getElem? (l := lw_privs) (i := 24) rfl, rfl⟩), by decide +kernel⟩
theorem tw_p25 : tw (.selects "TestEmitterModel" ⟨"TestEmitterModel", "value", "(IZ)V"⟩ ⟨"TestEmitterModel", "value", "(IZ)V"⟩) := ⟨List.mem_append_left _ (List.mem_map.mpr ⟨_, List.mem_of_getElem? (l := lw_privs) (i := 25) rfl, rfl⟩), by decide +kernel⟩
theorem tw_p26 : tw (.selects "TestEmitterModel" ⟨"TestEmitterModel", "array", "(IZ)V"⟩ ⟨"TestEmitterModel", "array", "(IZ)V"⟩) := ⟨List.mem_append_left _ (List.mem_map.mpr ⟨_, List.mem_of_getElem? (l := lw_privs) (i := 26) rfl, rfl⟩), by decide +kernel⟩
theorem tw_p27 : tw (.selects "TestEmitterModel" ⟨"TestEmitterModel", "next", "()I"⟩ ⟨"TestEmitterModel", "next", "()I"⟩) := ⟨List.mem_append_left _ (List.mem_map.mpr ⟨_, List.mem_of_getElem? (l := lw_privs) (i := 27) rfl, rfl⟩), by decide +kernel⟩
theorem tw_p28 : tw (.selects "TestEmitterModel" ⟨"TestEmitterModel", "nothing", "()V"⟩ ⟨"TestEmitterModel", "nothing", "()V"⟩) := ⟨List.mem_append_left _ (List.mem_map.mpr ⟨_, List.mem_of_getElem? (l := lw_privs) (i := 28) rfl, rfl⟩), by decide +kernel⟩
theorem tw_p29 : tw (.selects "TestEmitterModel" ⟨"TestEmitterModel", "arrayName", "(I)V"⟩ ⟨"TestEmitterModel", "arrayName", "(I)V"⟩) := ⟨List.mem_append_left _ (List.mem_map.mpr ⟨_, List.mem_of_getElem? (l := lw_privs) (i := 29) rfl, rfl⟩), by decide +kernel⟩
theorem tw_p30 : tw (.selects "TestEmitterModel" ⟨"TestEmitterModel", "object", "(I)V"⟩ ⟨"TestEmitterModel", "object", "(I)V"⟩) := ⟨List.mem_append_left _ (List.mem_map.mpr ⟨_, List.mem_of_getElem? (l := lw_privs) (i := 30) rfl, rfl⟩), by decide +kernel⟩
theorem tw_p31 : tw (.selects "TestEmitterModel" ⟨"TestEmitterModel", "wide", "()V"⟩ ⟨"TestEmitterModel", "wide", "()V"⟩) := ⟨List.mem_append_left _ (List.mem_map.mpr ⟨_, List.mem_of_getElem? (l := lw_privs) (i := 31) rfl, rfl⟩), by decide +kernel⟩
theorem tw_p32 : tw (.selects "TestEmitterModel" ⟨"TestEmitterModel", "least", "(J)V"⟩ ⟨"TestEmitterModel", "least", "(J)V"⟩) := ⟨List.mem_append_left _ (List.mem_map.mpr ⟨_, List.mem_of_getElem? (l := lw_privs) (i := 32) rfl, rfl⟩), by decide +kernel⟩
theorem tw_p33 : tw (.selects "TestEmitterModel" ⟨"TestEmitterModel", "number", "(J)V"⟩ ⟨"TestEmitterModel", "number", "(J)V"⟩) := ⟨List.mem_append_left _ (List.mem_map.mpr ⟨_, List.mem_of_getElem? (l := lw_privs) (i := 33) rfl, rfl⟩), by decide +kernel⟩
theorem tw_p34 : tw (.selects "TestEmitterModel" ⟨"TestEmitterModel", "narrow", "(J)J"⟩ ⟨"TestEmitterModel", "narrow", "(J)J"⟩) := ⟨List.mem_append_left _ (List.mem_map.mpr ⟨_, List.mem_of_getElem? (l := lw_privs) (i := 34) rfl, rfl⟩), by decide +kernel⟩
theorem tw_p35 : tw (.selects "TestEmitterModel" ⟨"TestEmitterModel", "pointed", "(J)V"⟩ ⟨"TestEmitterModel", "pointed", "(J)V"⟩) := ⟨List.mem_append_left _ (List.mem_map.mpr ⟨_, List.mem_of_getElem? (l := lw_privs) (i := 35) rfl, rfl⟩), by decide +kernel⟩
theorem tw_p36 : tw (.selects "TestEmitterModel" ⟨"TestEmitterModel", "texts", "()V"⟩ ⟨"TestEmitterModel", "texts", "()V"⟩) := ⟨List.mem_append_left _ (List.mem_map.mpr ⟨_, List.mem_of_getElem? (l := lw_privs) (i := 36) rfl, rfl⟩), by decide +kernel⟩
theorem tw_p37 : tw (.selects "TestEmitterModel" ⟨"TestEmitterModel", "character", "(II)V"⟩ ⟨"TestEmitterModel", "character", "(II)V"⟩) := ⟨List.mem_append_left _ (List.mem_map.mpr ⟨_, List.mem_of_getElem? (l := lw_privs) (i := 37) rfl, rfl⟩), by decide +kernel⟩
theorem tw_p38 : tw (.selects "TestEmitterModel" ⟨"TestEmitterModel", "whole", "(C)V"⟩ ⟨"TestEmitterModel", "whole", "(C)V"⟩) := ⟨List.mem_append_left _ (List.mem_map.mpr ⟨_, List.mem_of_getElem? (l := lw_privs) (i := 38) rfl, rfl⟩), by decide +kernel⟩
theorem tw_p39 : tw (.selects "TestEmitterModel" ⟨"TestEmitterModel", "assertion", "(J)V"⟩ ⟨"TestEmitterModel", "assertion", "(J)V"⟩) := ⟨List.mem_append_left _ (List.mem_map.mpr ⟨_, List.mem_of_getElem? (l := lw_privs) (i := 39) rfl, rfl⟩), by decide +kernel⟩
theorem tw_p40 : tw (.selects "TestEmitterModel" ⟨"TestEmitterModel", "copyPart", "(I)V"⟩ ⟨"TestEmitterModel", "copyPart", "(I)V"⟩) := ⟨List.mem_append_left _ (List.mem_map.mpr ⟨_, List.mem_of_getElem? (l := lw_privs) (i := 40) rfl, rfl⟩), by decide +kernel⟩
theorem tw_p41 : tw (.selects "TestEmitterModel" ⟨"TestEmitterModel", "add", "(Z)I"⟩ ⟨"TestEmitterModel", "add", "(Z)I"⟩) := ⟨List.mem_append_left _ (List.mem_map.mpr ⟨_, List.mem_of_getElem? (l := lw_privs) (i := 41) rfl, rfl⟩), by decide +kernel⟩
theorem tw_p42 : tw (.selects "TestEmitterModel" ⟨"TestEmitterModel", "sameBody", "(II)Z"⟩ ⟨"TestEmitterModel", "sameBody", "(II)Z"⟩) := ⟨List.mem_append_left _ (List.mem_map.mpr ⟨_, List.mem_of_getElem? (l := lw_privs) (i := 42) rfl, rfl⟩), by decide +kernel⟩
theorem tw_p43 : tw (.selects "TestEmitterModel" ⟨"TestEmitterModel", "bodyAt", "(II)I"⟩ ⟨"TestEmitterModel", "bodyAt", "(II)I"⟩) := ⟨List.mem_append_left _ (List.mem_map.mpr ⟨_, List.mem_of_getElem? (l := lw_privs) (i := 43) rfl, rfl⟩), by decide +kernel⟩
theorem tw_p44 : tw (.selects "TestEmitterModel" ⟨"TestEmitterModel", "letters", "()Z"⟩ ⟨"TestEmitterModel", "letters", "()Z"⟩) := ⟨List.mem_append_left _ (List.mem_map.mpr ⟨_, List.mem_of_getElem? (l := lw_privs) (i := 44) rfl, rfl⟩), by decide +kernel⟩
theorem tw_p45 : tw (.selects "TestEmitterModel" ⟨"TestEmitterModel", "name", "(I)V"⟩ ⟨"TestEmitterModel", "name", "(I)V"⟩) := ⟨List.mem_append_left _ (List.mem_map.mpr ⟨_, List.mem_of_getElem? (l := lw_privs) (i := 45) rfl, rfl⟩), by decide +kernel⟩
theorem tw_p46 : tw (.selects "TestEmitterModel" ⟨"TestEmitterModel", "outWord", "(J)V"⟩ ⟨"TestEmitterModel", "outWord", "(J)V"⟩) := ⟨List.mem_append_left _ (List.mem_map.mpr ⟨_, List.mem_of_getElem? (l := lw_privs) (i := 46) rfl, rfl⟩), by decide +kernel⟩
theorem tw_p47 : tw (.selects "TestEmitterModel" ⟨"TestEmitterModel", "out", "(I)V"⟩ ⟨"TestEmitterModel", "out", "(I)V"⟩) := ⟨List.mem_append_left _ (List.mem_map.mpr ⟨_, List.mem_of_getElem? (l := lw_privs) (i := 47) rfl, rfl⟩), by decide +kernel⟩
theorem tw_p48 : tw (.selects "TestEmitterModel" ⟨"TestEmitterModel", "setText", "(II)V"⟩ ⟨"TestEmitterModel", "setText", "(II)V"⟩) := ⟨List.mem_append_left _ (List.mem_map.mpr ⟨_, List.mem_of_getElem? (l := lw_privs) (i := 48) rfl, rfl⟩), by decide +kernel⟩
theorem tw_p49 : tw (.selects "TestEmitterModel" ⟨"TestEmitterModel", "endLine", "(I)V"⟩ ⟨"TestEmitterModel", "endLine", "(I)V"⟩) := ⟨List.mem_append_left _ (List.mem_map.mpr ⟨_, List.mem_of_getElem? (l := lw_privs) (i := 49) rfl, rfl⟩), by decide +kernel⟩
theorem tw_p50 : tw (.selects "TestEmitterModel" ⟨"TestEmitterModel", "blanks", "(I)V"⟩ ⟨"TestEmitterModel", "blanks", "(I)V"⟩) := ⟨List.mem_append_left _ (List.mem_map.mpr ⟨_, List.mem_of_getElem? (l := lw_privs) (i := 50) rfl, rfl⟩), by decide +kernel⟩
theorem tw_p51 : tw (.selects "TestEmitterModel" ⟨"TestEmitterModel", "outNumber", "(I)V"⟩ ⟨"TestEmitterModel", "outNumber", "(I)V"⟩) := ⟨List.mem_append_left _ (List.mem_map.mpr ⟨_, List.mem_of_getElem? (l := lw_privs) (i := 51) rfl, rfl⟩), by decide +kernel⟩
theorem tw_p52 : tw (.selects "TestEmitterModel" ⟨"TestEmitterModel", "outBody", "(I)V"⟩ ⟨"TestEmitterModel", "outBody", "(I)V"⟩) := ⟨List.mem_append_left _ (List.mem_map.mpr ⟨_, List.mem_of_getElem? (l := lw_privs) (i := 52) rfl, rfl⟩), by decide +kernel⟩
theorem tw_p53 : tw (.selects "TestEmitterModel" ⟨"TestEmitterModel", "endBroken", "(I)V"⟩ ⟨"TestEmitterModel", "endBroken", "(I)V"⟩) := ⟨List.mem_append_left _ (List.mem_map.mpr ⟨_, List.mem_of_getElem? (l := lw_privs) (i := 53) rfl, rfl⟩), by decide +kernel⟩
theorem tw_p54 : tw (.selects "TestEmitterModel" ⟨"TestEmitterModel", "textAt", "(I)I"⟩ ⟨"TestEmitterModel", "textAt", "(I)I"⟩) := ⟨List.mem_append_left _ (List.mem_map.mpr ⟨_, List.mem_of_getElem? (l := lw_privs) (i := 54) rfl, rfl⟩), by decide +kernel⟩
theorem tw_p55 : tw (.selects "TestEmitterModel" ⟨"TestEmitterModel", "comma", "(II)I"⟩ ⟨"TestEmitterModel", "comma", "(II)I"⟩) := ⟨List.mem_append_left _ (List.mem_map.mpr ⟨_, List.mem_of_getElem? (l := lw_privs) (i := 55) rfl, rfl⟩), by decide +kernel⟩
theorem tw_t0 : tw (Jvm.Cond.initialized "TestEmitterLaw") := ⟨List.mem_append_right _ (List.mem_append_left _ (List.mem_of_getElem? (i := 0) rfl)), by decide +kernel⟩
theorem tw_t1 : tw (Jvm.Cond.initialized "TestEmitter") := ⟨List.mem_append_right _ (List.mem_append_left _ (List.mem_of_getElem? (i := 1) rfl)), by decide +kernel⟩
theorem tw_t2 : tw (Jvm.Cond.initialized "TestEmitter$Chars") := ⟨List.mem_append_right _ (List.mem_append_left _ (List.mem_of_getElem? (i := 2) rfl)), by decide +kernel⟩
theorem tw_t3 : tw (Jvm.Cond.initialized "TestEmitter$TypeRow") := ⟨List.mem_append_right _ (List.mem_append_left _ (List.mem_of_getElem? (i := 3) rfl)), by decide +kernel⟩
theorem tw_t4 : tw (Jvm.Cond.initialized "TestEmitter$Type") := ⟨List.mem_append_right _ (List.mem_append_left _ (List.mem_of_getElem? (i := 4) rfl)), by decide +kernel⟩
theorem tw_t5 : tw (Jvm.Cond.initialized "TestEmitter$Builder") := ⟨List.mem_append_right _ (List.mem_append_left _ (List.mem_of_getElem? (i := 5) rfl)), by decide +kernel⟩
theorem tw_t6 : tw (Jvm.Cond.initialized "TestEmitter$Data") := ⟨List.mem_append_right _ (List.mem_append_left _ (List.mem_of_getElem? (i := 6) rfl)), by decide +kernel⟩
theorem tw_t7 : tw (Jvm.Cond.initialized "TestEmitter$Suite") := ⟨List.mem_append_right _ (List.mem_append_left _ (List.mem_of_getElem? (i := 7) rfl)), by decide +kernel⟩
theorem tw_t8 : tw (Jvm.Cond.initialized "TestEmitter$Text") := ⟨List.mem_append_right _ (List.mem_append_left _ (List.mem_of_getElem? (i := 8) rfl)), by decide +kernel⟩
theorem tw_t9 : tw (Jvm.Cond.initialized "java/lang/Math") := ⟨List.mem_append_right _ (List.mem_append_left _ (List.mem_of_getElem? (i := 9) rfl)), by decide +kernel⟩
theorem tw_t10 : tw (Jvm.Cond.initialized "TestEmitterModel") := ⟨List.mem_append_right _ (List.mem_append_left _ (List.mem_of_getElem? (i := 10) rfl)), by decide +kernel⟩
theorem tw_t11 : tw (Jvm.Cond.initialized "java/lang/System") := ⟨List.mem_append_right _ (List.mem_append_left _ (List.mem_of_getElem? (i := 11) rfl)), by decide +kernel⟩
theorem tw_t12 : tw (Jvm.Cond.initialized "java/lang/String") := ⟨List.mem_append_right _ (List.mem_append_left _ (List.mem_of_getElem? (i := 12) rfl)), by decide +kernel⟩
theorem tw_t13 : tw (Jvm.Cond.initialized "java/lang/StringLatin1") := ⟨List.mem_append_right _ (List.mem_append_left _ (List.mem_of_getElem? (i := 13) rfl)), by decide +kernel⟩
theorem tw_t15 : tw (Jvm.Cond.initialized "jdk/internal/util/Preconditions") := ⟨List.mem_append_right _ (List.mem_append_left _ (List.mem_of_getElem? (i := 15) rfl)), by decide +kernel⟩
theorem tw_t17 : tw (Jvm.Cond.classLink "TestEmitterLaw" (7 : Nat) "TestEmitter") := ⟨List.mem_append_right _ (List.mem_append_left _ (List.mem_of_getElem? (i := 17) rfl)), by decide +kernel⟩
theorem tw_t18 : tw (Jvm.Cond.instantiable "TestEmitter" (10 : Nat)) := ⟨List.mem_append_right _ (List.mem_append_left _ (List.mem_of_getElem? (i := 18) rfl)), by decide +kernel⟩
theorem tw_t19 : tw (Jvm.Cond.methodLink "TestEmitterLaw" (15 : Nat) ({ cls := "TestEmitter", name := "<init>", desc := "(I)V" } : Jvm.MethodName)) := ⟨List.mem_append_right _ (List.mem_append_left _ (List.mem_of_getElem? (i := 19) rfl)), by decide +kernel⟩
theorem tw_t20 : tw (Jvm.Cond.instanceMethod ({ cls := "TestEmitter", name := "<init>", desc := "(I)V" } : Jvm.MethodName)) := ⟨List.mem_append_right _ (List.mem_append_left _ (List.mem_of_getElem? (i := 20) rfl)), by decide +kernel⟩
theorem tw_t21 : tw (Jvm.Cond.code ({ cls := "TestEmitter", name := "<init>", desc := "(I)V" } : Jvm.MethodName) prog_1_method_1_code (2 : Nat) (Option.none : Option Jvm.ClassFile.FieldType)) := ⟨List.mem_append_right _ (List.mem_append_left _ (List.mem_of_getElem? (i := 21) rfl)), by decide +kernel⟩
theorem tw_t22 : tw (Jvm.Cond.methodLink "TestEmitter" (1 : Nat) ({ cls := "java/lang/Object", name := "<init>", desc := "()V" } : Jvm.MethodName)) := ⟨List.mem_append_right _ (List.mem_append_left _ (List.mem_of_getElem? (i := 22) rfl)), by decide +kernel⟩
theorem tw_t23 : tw (Jvm.Cond.instanceMethod ({ cls := "java/lang/Object", name := "<init>", desc := "()V" } : Jvm.MethodName)) := ⟨List.mem_append_right _ (List.mem_append_left _ (List.mem_of_getElem? (i := 23) rfl)), by decide +kernel⟩
theorem tw_t24 : tw (Jvm.Cond.code ({ cls := "java/lang/Object", name := "<init>", desc := "()V" } : Jvm.MethodName) object_method_1_code (1 : Nat) (Option.none : Option Jvm.ClassFile.FieldType)) := ⟨List.mem_append_right _ (List.mem_append_left _ (List.mem_of_getElem? (i := 24) rfl)), by decide +kernel⟩
theorem tw_t25 : tw (Jvm.Cond.classLink "TestEmitter" (7 : Nat) "TestEmitter$Chars") := ⟨List.mem_append_right _ (List.mem_append_left _ (List.mem_of_getElem? (i := 25) rfl)), by decide +kernel⟩
theorem tw_t26 : tw (Jvm.Cond.instantiable "TestEmitter$Chars" (2 : Nat)) := ⟨List.mem_append_right _ (List.mem_append_left _ (List.mem_of_getElem? (i := 26) rfl)), by decide +kernel⟩
theorem tw_t27 : tw (Jvm.Cond.methodLink "TestEmitter" (11 : Nat) ({ cls := "TestEmitter$Chars", name := "<init>", desc := "(I)V" } : Jvm.MethodName)) := ⟨List.mem_append_right _ (List.mem_append_left _ (List.mem_of_getElem? (i := 27) rfl)), by decide +kernel⟩
theorem tw_t28 : tw (Jvm.Cond.instanceMethod ({ cls := "TestEmitter$Chars", name := "<init>", desc := "(I)V" } : Jvm.MethodName)) := ⟨List.mem_append_right _ (List.mem_append_left _ (List.mem_of_getElem? (i := 28) rfl)), by decide +kernel⟩
theorem tw_t29 : tw (Jvm.Cond.code ({ cls := "TestEmitter$Chars", name := "<init>", desc := "(I)V" } : Jvm.MethodName) prog_3_method_1_code (2 : Nat) (Option.none : Option Jvm.ClassFile.FieldType)) := ⟨List.mem_append_right _ (List.mem_append_left _ (List.mem_of_getElem? (i := 29) rfl)), by decide +kernel⟩
theorem tw_t30 : tw (Jvm.Cond.methodLink "TestEmitter$Chars" (3 : Nat) ({ cls := "java/lang/Object", name := "<init>", desc := "()V" } : Jvm.MethodName)) := ⟨List.mem_append_right _ (List.mem_append_left _ (List.mem_of_getElem? (i := 30) rfl)), by decide +kernel⟩
theorem tw_t31 : tw (Jvm.Cond.fieldLink "TestEmitter$Chars" (9 : Nat) "TestEmitter$Chars" "chars" "[C") := ⟨List.mem_append_right _ (List.mem_append_left _ (List.mem_of_getElem? (i := 31) rfl)), by decide +kernel⟩
theorem tw_t32 : tw (Jvm.Cond.fieldLink "TestEmitter$Chars" (15 : Nat) "TestEmitter$Chars" "length" "I") := ⟨List.mem_append_right _ (List.mem_append_left _ (List.mem_of_getElem? (i := 32) rfl)), by decide +kernel⟩
theorem tw_t33 : tw (Jvm.Cond.lays "TestEmitter$Chars" "TestEmitter$Chars" "chars" "[C") := ⟨List.mem_append_right _ (List.mem_append_left _ (List.mem_of_getElem? (i := 33) rfl)), by decide +kernel⟩
theorem tw_t35 : tw (Jvm.Cond.lays "TestEmitter$Chars" "TestEmitter$Chars" "length" "I") := ⟨List.mem_append_right _ (List.mem_append_left _ (List.mem_of_getElem? (i := 35) rfl)), by decide +kernel⟩
theorem tw_t38 : tw (Jvm.Cond.arrayClass Jvm.ClassFile.FieldType.char) := ⟨List.mem_append_right _ (List.mem_append_left _ (List.mem_of_getElem? (i := 38) rfl)), by decide +kernel⟩
theorem tw_t39 : tw (Jvm.Cond.classLink "TestEmitter" (18 : Nat) "TestEmitter$TypeRow") := ⟨List.mem_append_right _ (List.mem_append_left _ (List.mem_of_getElem? (i := 39) rfl)), by decide +kernel⟩
theorem tw_t40 : tw (Jvm.Cond.instantiable "TestEmitter$TypeRow" (2 : Nat)) := ⟨List.mem_append_right _ (List.mem_append_left _ (List.mem_of_getElem? (i := 40) rfl)), by decide +kernel⟩
theorem tw_t41 : tw (Jvm.Cond.methodLinkNest "TestEmitter" (20 : Nat) ({ cls := "TestEmitter$TypeRow", name := "<init>", desc := "()V" } : Jvm.MethodName) "TestEmitter") := ⟨List.mem_append_right _ (List.mem_append_left _ (List.mem_of_getElem? (i := 41) rfl)), by decide +kernel⟩
theorem tw_t42 : tw (Jvm.Cond.instanceMethod ({ cls := "TestEmitter$TypeRow", name := "<init>", desc := "()V" } : Jvm.MethodName)) := ⟨List.mem_append_right _ (List.mem_append_left _ (List.mem_of_getElem? (i := 42) rfl)), by decide +kernel⟩
theorem tw_t43 : tw (Jvm.Cond.code ({ cls := "TestEmitter$TypeRow", name := "<init>", desc := "()V" } : Jvm.MethodName) prog_8_method_1_code (1 : Nat) (Option.none : Option Jvm.ClassFile.FieldType)) := ⟨List.mem_append_right _ (List.mem_append_left _ (List.mem_of_getElem? (i := 43) rfl)), by decide +kernel⟩
theorem tw_t44 : tw (Jvm.Cond.methodLink "TestEmitter$TypeRow" (3 : Nat) ({ cls := "java/lang/Object", name := "<init>", desc := "()V" } : Jvm.MethodName)) := ⟨List.mem_append_right _ (List.mem_append_left _ (List.mem_of_getElem? (i := 44) rfl)), by decide +kernel⟩
theorem tw_t45 : tw (Jvm.Cond.classLink "TestEmitter$TypeRow" (9 : Nat) "TestEmitter$Type") := ⟨List.mem_append_right _ (List.mem_append_left _ (List.mem_of_getElem? (i := 45) rfl)), by decide +kernel⟩
theorem tw_t46 : tw (Jvm.Cond.arrayOver (Jvm.ClassFile.FieldType.object "TestEmitter$Type")) := ⟨List.mem_append_right _ (List.mem_append_left _ (List.mem_of_getElem? (i := 46) rfl)), by decide +kernel⟩
theorem tw_t47 : tw (Jvm.Cond.fieldLink "TestEmitter$TypeRow" (11 : Nat) "TestEmitter$TypeRow" "types" "[LTestEmitter$Type;") := ⟨List.mem_append_right _ (List.mem_append_left _ (List.mem_of_getElem? (i := 47) rfl)), by decide +kernel⟩
theorem tw_t48 : tw (Jvm.Cond.fieldLink "TestEmitter$TypeRow" (18 : Nat) "TestEmitter$TypeRow" "size" "I") := ⟨List.mem_append_right _ (List.mem_append_left _ (List.mem_of_getElem? (i := 48) rfl)), by decide +kernel⟩
theorem tw_t49 : tw (Jvm.Cond.laysFinal "TestEmitter$TypeRow" "TestEmitter$TypeRow" "types" "[LTestEmitter$Type;") := ⟨List.mem_append_right _ (List.mem_append_left _ (List.mem_of_getElem? (i := 49) rfl)), by decide +kernel⟩
theorem tw_t51 : tw (Jvm.Cond.lays "TestEmitter$TypeRow" "TestEmitter$TypeRow" "size" "I") := ⟨List.mem_append_right _ (List.mem_append_left _ (List.mem_of_getElem? (i := 51) rfl)), by decide +kernel⟩
theorem tw_t54 : tw (Jvm.Cond.classLink "TestEmitter" (25 : Nat) "TestEmitter$Type") := ⟨List.mem_append_right _ (List.mem_append_left _ (List.mem_of_getElem? (i := 54) rfl)), by decide +kernel⟩
theorem tw_t55 : tw (Jvm.Cond.instantiable "TestEmitter$Type" (3 : Nat)) := ⟨List.mem_append_right _ (List.mem_append_left _ (List.mem_of_getElem? (i := 55) rfl)), by decide +kernel⟩
theorem tw_t56 : tw (Jvm.Cond.methodLink "TestEmitter" (27 : Nat) ({ cls := "TestEmitter$Type", name := "<init>", desc := "(III)V" } : Jvm.MethodName)) := ⟨List.mem_append_right _ (List.mem_append_left _ (List.mem_of_getElem? (i := 56) rfl)), by decide +kernel⟩
theorem tw_t57 : tw (Jvm.Cond.instanceMethod ({ cls := "TestEmitter$Type", name := "<init>", desc := "(III)V" } : Jvm.MethodName)) := ⟨List.mem_append_right _ (List.mem_append_left _ (List.mem_of_getElem? (i := 57) rfl)), by decide +kernel⟩
theorem tw_t58 : tw (Jvm.Cond.code ({ cls := "TestEmitter$Type", name := "<init>", desc := "(III)V" } : Jvm.MethodName) prog_7_method_1_code (4 : Nat) (Option.none : Option Jvm.ClassFile.FieldType)) := ⟨List.mem_append_right _ (List.mem_append_left _ (List.mem_of_getElem? (i := 58) rfl)), by decide +kernel⟩
theorem tw_t59 : tw (Jvm.Cond.methodLink "TestEmitter$Type" (3 : Nat) ({ cls := "java/lang/Object", name := "<init>", desc := "()V" } : Jvm.MethodName)) := ⟨List.mem_append_right _ (List.mem_append_left _ (List.mem_of_getElem? (i := 59) rfl)), by decide +kernel⟩
theorem tw_t60 : tw (Jvm.Cond.fieldLink "TestEmitter$Type" (9 : Nat) "TestEmitter$Type" "brackets" "I") := ⟨List.mem_append_right _ (List.mem_append_left _ (List.mem_of_getElem? (i := 60) rfl)), by decide +kernel⟩
theorem tw_t61 : tw (Jvm.Cond.fieldLink "TestEmitter$Type" (15 : Nat) "TestEmitter$Type" "letter" "I") := ⟨List.mem_append_right _ (List.mem_append_left _ (List.mem_of_getElem? (i := 61) rfl)), by decide +kernel⟩
theorem tw_t62 : tw (Jvm.Cond.fieldLink "TestEmitter$Type" (18 : Nat) "TestEmitter$Type" "classNumber" "I") := ⟨List.mem_append_right _ (List.mem_append_left _ (List.mem_of_getElem? (i := 62) rfl)), by decide +kernel⟩
theorem tw_t63 : tw (Jvm.Cond.laysFinal "TestEmitter$Type" "TestEmitter$Type" "brackets" "I") := ⟨List.mem_append_right _ (List.mem_append_left _ (List.mem_of_getElem? (i := 63) rfl)), by decide +kernel⟩
theorem tw_t65 : tw (Jvm.Cond.laysFinal "TestEmitter$Type" "TestEmitter$Type" "letter" "I") := ⟨List.mem_append_right _ (List.mem_append_left _ (List.mem_of_getElem? (i := 65) rfl)), by decide +kernel⟩
theorem tw_t67 : tw (Jvm.Cond.laysFinal "TestEmitter$Type" "TestEmitter$Type" "classNumber" "I") := ⟨List.mem_append_right _ (List.mem_append_left _ (List.mem_of_getElem? (i := 67) rfl)), by decide +kernel⟩
theorem tw_t70 : tw (Jvm.Cond.classLink "TestEmitter" (34 : Nat) "TestEmitter$Builder") := ⟨List.mem_append_right _ (List.mem_append_left _ (List.mem_of_getElem? (i := 70) rfl)), by decide +kernel⟩
theorem tw_t71 : tw (Jvm.Cond.instantiable "TestEmitter$Builder" (2 : Nat)) := ⟨List.mem_append_right _ (List.mem_append_left _ (List.mem_of_getElem? (i := 71) rfl)), by decide +kernel⟩
theorem tw_t72 : tw (Jvm.Cond.methodLink "TestEmitter" (36 : Nat) ({ cls := "TestEmitter$Builder", name := "<init>", desc := "()V" } : Jvm.MethodName)) := ⟨List.mem_append_right _ (List.mem_append_left _ (List.mem_of_getElem? (i := 72) rfl)), by decide +kernel⟩
theorem tw_t73 : tw (Jvm.Cond.instanceMethod ({ cls := "TestEmitter$Builder", name := "<init>", desc := "()V" } : Jvm.MethodName)) := ⟨List.mem_append_right _ (List.mem_append_left _ (List.mem_of_getElem? (i := 73) rfl)), by decide +kernel⟩
theorem tw_t74 : tw (Jvm.Cond.code ({ cls := "TestEmitter$Builder", name := "<init>", desc := "()V" } : Jvm.MethodName) prog_2_method_1_code (2 : Nat) (Option.none : Option Jvm.ClassFile.FieldType)) := ⟨List.mem_append_right _ (List.mem_append_left _ (List.mem_of_getElem? (i := 74) rfl)), by decide +kernel⟩
theorem tw_t75 : tw (Jvm.Cond.methodLink "TestEmitter$Builder" (3 : Nat) ({ cls := "java/lang/Object", name := "<init>", desc := "()V" } : Jvm.MethodName)) := ⟨List.mem_append_right _ (List.mem_append_left _ (List.mem_of_getElem? (i := 75) rfl)), by decide +kernel⟩
theorem tw_t76 : tw (Jvm.Cond.classLink "TestEmitter$Builder" (9 : Nat) "TestEmitter$Data") := ⟨List.mem_append_right _ (List.mem_append_left _ (List.mem_of_getElem? (i := 76) rfl)), by decide +kernel⟩
theorem tw_t77 : tw (Jvm.Cond.instantiable "TestEmitter$Data" (3 : Nat)) := ⟨List.mem_append_right _ (List.mem_append_left _ (List.mem_of_getElem? (i := 77) rfl)), by decide +kernel⟩
theorem tw_t78 : tw (Jvm.Cond.methodLinkNest "TestEmitter$Builder" (11 : Nat) ({ cls := "TestEmitter$Data", name := "<init>", desc := "()V" } : Jvm.MethodName) "TestEmitter") := ⟨List.mem_append_right _ (List.mem_append_left _ (List.mem_of_getElem? (i := 78) rfl)), by decide +kernel⟩
theorem tw_t79 : tw (Jvm.Cond.instanceMethod ({ cls := "TestEmitter$Data", name := "<init>", desc := "()V" } : Jvm.MethodName)) := ⟨List.mem_append_right _ (List.mem_append_left _ (List.mem_of_getElem? (i := 79) rfl)), by decide +kernel⟩
theorem tw_t80 : tw (Jvm.Cond.code ({ cls := "TestEmitter$Data", name := "<init>", desc := "()V" } : Jvm.MethodName) prog_4_method_1_code (1 : Nat) (Option.none : Option Jvm.ClassFile.FieldType)) := ⟨List.mem_append_right _ (List.mem_append_left _ (List.mem_of_getElem? (i := 80) rfl)), by decide +kernel⟩
theorem tw_t81 : tw (Jvm.Cond.methodLink "TestEmitter$Data" (3 : Nat) ({ cls := "java/lang/Object", name := "<init>", desc := "()V" } : Jvm.MethodName)) := ⟨List.mem_append_right _ (List.mem_append_left _ (List.mem_of_getElem? (i := 81) rfl)), by decide +kernel⟩
theorem tw_t82 : tw (Jvm.Cond.fieldLink "TestEmitter$Data" (9 : Nat) "TestEmitter$Data" "ints" "[I") := ⟨List.mem_append_right _ (List.mem_append_left _ (List.mem_of_getElem? (i := 82) rfl)), by decide +kernel⟩
theorem tw_t83 : tw (Jvm.Cond.fieldLink "TestEmitter$Data" (15 : Nat) "TestEmitter$Data" "size" "I") := ⟨List.mem_append_right _ (List.mem_append_left _ (List.mem_of_getElem? (i := 83) rfl)), by decide +kernel⟩
theorem tw_t84 : tw (Jvm.Cond.fieldLink "TestEmitter$Data" (19 : Nat) "TestEmitter$Data" "used" "I") := ⟨List.mem_append_right _ (List.mem_append_left _ (List.mem_of_getElem? (i := 84) rfl)), by decide +kernel⟩
theorem tw_t85 : tw (Jvm.Cond.laysFinal "TestEmitter$Data" "TestEmitter$Data" "ints" "[I") := ⟨List.mem_append_right _ (List.mem_append_left _ (List.mem_of_getElem? (i := 85) rfl)), by decide +kernel⟩
theorem tw_t87 : tw (Jvm.Cond.lays "TestEmitter$Data" "TestEmitter$Data" "size" "I") := ⟨List.mem_append_right _ (List.mem_append_left _ (List.mem_of_getElem? (i := 87) rfl)), by decide +kernel⟩
theorem tw_t89 : tw (Jvm.Cond.lays "TestEmitter$Data" "TestEmitter$Data" "used" "I") := ⟨List.mem_append_right _ (List.mem_append_left _ (List.mem_of_getElem? (i := 89) rfl)), by decide +kernel⟩
theorem tw_t92 : tw (Jvm.Cond.arrayClass Jvm.ClassFile.FieldType.int) := ⟨List.mem_append_right _ (List.mem_append_left _ (List.mem_of_getElem? (i := 92) rfl)), by decide +kernel⟩
theorem tw_t93 : tw (Jvm.Cond.classLink "TestEmitter$Builder" (18 : Nat) "TestEmitter$TypeRow") := ⟨List.mem_append_right _ (List.mem_append_left _ (List.mem_of_getElem? (i := 93) rfl)), by decide +kernel⟩
theorem tw_t94 : tw (Jvm.Cond.arrayOver (Jvm.ClassFile.FieldType.object "TestEmitter$TypeRow")) := ⟨List.mem_append_right _ (List.mem_append_left _ (List.mem_of_getElem? (i := 94) rfl)), by decide +kernel⟩
theorem tw_t95 : tw (Jvm.Cond.methodLinkNest "TestEmitter$Builder" (24 : Nat) ({ cls := "TestEmitter$TypeRow", name := "<init>", desc := "()V" } : Jvm.MethodName) "TestEmitter") := ⟨List.mem_append_right _ (List.mem_append_left _ (List.mem_of_getElem? (i := 95) rfl)), by decide +kernel⟩
theorem tw_t96 : tw (Jvm.Cond.fieldLink "TestEmitter$Builder" (12 : Nat) "TestEmitter$Builder" "numbers" "LTestEmitter$Data;") := ⟨List.mem_append_right _ (List.mem_append_left _ (List.mem_of_getElem? (i := 96) rfl)), by decide +kernel⟩
theorem tw_t97 : tw (Jvm.Cond.fieldLink "TestEmitter$Builder" (20 : Nat) "TestEmitter$Builder" "classes" "[LTestEmitter$TypeRow;") := ⟨List.mem_append_right _ (List.mem_append_left _ (List.mem_of_getElem? (i := 97) rfl)), by decide +kernel⟩
theorem tw_t98 : tw (Jvm.Cond.laysFinal "TestEmitter$Builder" "TestEmitter$Builder" "numbers" "LTestEmitter$Data;") := ⟨List.mem_append_right _ (List.mem_append_left _ (List.mem_of_getElem? (i := 98) rfl)), by decide +kernel⟩
theorem tw_t100 : tw (Jvm.Cond.laysFinal "TestEmitter$Builder" "TestEmitter$Builder" "classes" "[LTestEmitter$TypeRow;") := ⟨List.mem_append_right _ (List.mem_append_left _ (List.mem_of_getElem? (i := 100) rfl)), by decide +kernel⟩
theorem tw_t103 : tw (Jvm.Cond.classLink "TestEmitter" (50 : Nat) "TestEmitter$Suite") := ⟨List.mem_append_right _ (List.mem_append_left _ (List.mem_of_getElem? (i := 103) rfl)), by decide +kernel⟩
theorem tw_t104 : tw (Jvm.Cond.instantiable "TestEmitter$Suite" (3 : Nat)) := ⟨List.mem_append_right _ (List.mem_append_left _ (List.mem_of_getElem? (i := 104) rfl)), by decide +kernel⟩
theorem tw_t105 : tw (Jvm.Cond.methodLinkNest "TestEmitter" (52 : Nat) ({ cls := "TestEmitter$Suite", name := "<init>", desc := "()V" } : Jvm.MethodName) "TestEmitter") := ⟨List.mem_append_right _ (List.mem_append_left _ (List.mem_of_getElem? (i := 105) rfl)), by decide +kernel⟩
theorem tw_t106 : tw (Jvm.Cond.instanceMethod ({ cls := "TestEmitter$Suite", name := "<init>", desc := "()V" } : Jvm.MethodName)) := ⟨List.mem_append_right _ (List.mem_append_left _ (List.mem_of_getElem? (i := 106) rfl)), by decide +kernel⟩
theorem tw_t107 : tw (Jvm.Cond.code ({ cls := "TestEmitter$Suite", name := "<init>", desc := "()V" } : Jvm.MethodName) prog_5_method_1_code (1 : Nat) (Option.none : Option Jvm.ClassFile.FieldType)) := ⟨List.mem_append_right _ (List.mem_append_left _ (List.mem_of_getElem? (i := 107) rfl)), by decide +kernel⟩
theorem tw_t108 : tw (Jvm.Cond.methodLink "TestEmitter$Suite" (3 : Nat) ({ cls := "java/lang/Object", name := "<init>", desc := "()V" } : Jvm.MethodName)) := ⟨List.mem_append_right _ (List.mem_append_left _ (List.mem_of_getElem? (i := 108) rfl)), by decide +kernel⟩
theorem tw_t109 : tw (Jvm.Cond.classLink "TestEmitter$Suite" (9 : Nat) "TestEmitter$Chars") := ⟨List.mem_append_right _ (List.mem_append_left _ (List.mem_of_getElem? (i := 109) rfl)), by decide +kernel⟩
theorem tw_t110 : tw (Jvm.Cond.arrayOver (Jvm.ClassFile.FieldType.object "TestEmitter$Chars")) := ⟨List.mem_append_right _ (List.mem_append_left _ (List.mem_of_getElem? (i := 110) rfl)), by decide +kernel⟩
theorem tw_t111 : tw (Jvm.Cond.fieldLink "TestEmitter$Suite" (11 : Nat) "TestEmitter$Suite" "bodies" "[LTestEmitter$Chars;") := ⟨List.mem_append_right _ (List.mem_append_left _ (List.mem_of_getElem? (i := 111) rfl)), by decide +kernel⟩
theorem tw_t112 : tw (Jvm.Cond.fieldLink "TestEmitter$Suite" (17 : Nat) "TestEmitter$Suite" "size" "I") := ⟨List.mem_append_right _ (List.mem_append_left _ (List.mem_of_getElem? (i := 112) rfl)), by decide +kernel⟩
theorem tw_t113 : tw (Jvm.Cond.fieldLink "TestEmitter$Suite" (21 : Nat) "TestEmitter$Suite" "thrown" "I") := ⟨List.mem_append_right _ (List.mem_append_left _ (List.mem_of_getElem? (i := 113) rfl)), by decide +kernel⟩
theorem tw_t114 : tw (Jvm.Cond.laysFinal "TestEmitter$Suite" "TestEmitter$Suite" "bodies" "[LTestEmitter$Chars;") := ⟨List.mem_append_right _ (List.mem_append_left _ (List.mem_of_getElem? (i := 114) rfl)), by decide +kernel⟩
theorem tw_t116 : tw (Jvm.Cond.lays "TestEmitter$Suite" "TestEmitter$Suite" "size" "I") := ⟨List.mem_append_right _ (List.mem_append_left _ (List.mem_of_getElem? (i := 116) rfl)), by decide +kernel⟩
theorem tw_t118 : tw (Jvm.Cond.lays "TestEmitter$Suite" "TestEmitter$Suite" "thrown" "I") := ⟨List.mem_append_right _ (List.mem_append_left _ (List.mem_of_getElem? (i := 118) rfl)), by decide +kernel⟩
theorem tw_t121 : tw (Jvm.Cond.classLink "TestEmitter" (61 : Nat) "TestEmitter$Text") := ⟨List.mem_append_right _ (List.mem_append_left _ (List.mem_of_getElem? (i := 121) rfl)), by decide +kernel⟩
theorem tw_t122 : tw (Jvm.Cond.instantiable "TestEmitter$Text" (7 : Nat)) := ⟨List.mem_append_right _ (List.mem_append_left _ (List.mem_of_getElem? (i := 122) rfl)), by decide +kernel⟩
theorem tw_t123 : tw (Jvm.Cond.methodLink "TestEmitter" (63 : Nat) ({ cls := "java/lang/Math", name := "min", desc := "(II)I" } : Jvm.MethodName)) := ⟨List.mem_append_right _ (List.mem_append_left _ (List.mem_of_getElem? (i := 123) rfl)), by decide +kernel⟩
theorem tw_t124 : tw (Jvm.Cond.static ({ cls := "java/lang/Math", name := "min", desc := "(II)I" } : Jvm.MethodName)) := ⟨List.mem_append_right _ (List.mem_append_left _ (List.mem_of_getElem? (i := 124) rfl)), by decide +kernel⟩
theorem tw_t125 : tw (Jvm.Cond.code ({ cls := "java/lang/Math", name := "min", desc := "(II)I" } : Jvm.MethodName) prog_12_method_69_code (2 : Nat) (Option.some Jvm.ClassFile.FieldType.int)) := ⟨List.mem_append_right _ (List.mem_append_left _ (List.mem_of_getElem? (i := 125) rfl)), by decide +kernel⟩
theorem tw_t126 : tw (Jvm.Cond.methodLink "TestEmitter" (69 : Nat) ({ cls := "java/lang/Math", name := "max", desc := "(II)I" } : Jvm.MethodName)) := ⟨List.mem_append_right _ (List.mem_append_left _ (List.mem_of_getElem? (i := 126) rfl)), by decide +kernel⟩
theorem tw_t127 : tw (Jvm.Cond.static ({ cls := "java/lang/Math", name := "max", desc := "(II)I" } : Jvm.MethodName)) := ⟨List.mem_append_right _ (List.mem_append_left _ (List.mem_of_getElem? (i := 127) rfl)), by decide +kernel⟩
theorem tw_t128 : tw (Jvm.Cond.code ({ cls := "java/lang/Math", name := "max", desc := "(II)I" } : Jvm.MethodName) prog_12_method_65_code (2 : Nat) (Option.some Jvm.ClassFile.FieldType.int)) := ⟨List.mem_append_right _ (List.mem_append_left _ (List.mem_of_getElem? (i := 128) rfl)), by decide +kernel⟩
theorem tw_t129 : tw (Jvm.Cond.methodLink "TestEmitter" (72 : Nat) ({ cls := "TestEmitter$Text", name := "<init>", desc := "(I)V" } : Jvm.MethodName)) := ⟨List.mem_append_right _ (List.mem_append_left _ (List.mem_of_getElem? (i := 129) rfl)), by decide +kernel⟩
theorem tw_t130 : tw (Jvm.Cond.instanceMethod ({ cls := "TestEmitter$Text", name := "<init>", desc := "(I)V" } : Jvm.MethodName)) := ⟨List.mem_append_right _ (List.mem_append_left _ (List.mem_of_getElem? (i := 130) rfl)), by decide +kernel⟩
theorem tw_t131 : tw (Jvm.Cond.code ({ cls := "TestEmitter$Text", name := "<init>", desc := "(I)V" } : Jvm.MethodName) prog_6_method_1_code (2 : Nat) (Option.none : Option Jvm.ClassFile.FieldType)) := ⟨List.mem_append_right _ (List.mem_append_left _ (List.mem_of_getElem? (i := 131) rfl)), by decide +kernel⟩
theorem tw_t132 : tw (Jvm.Cond.methodLink "TestEmitter$Text" (3 : Nat) ({ cls := "java/lang/Object", name := "<init>", desc := "()V" } : Jvm.MethodName)) := ⟨List.mem_append_right _ (List.mem_append_left _ (List.mem_of_getElem? (i := 132) rfl)), by decide +kernel⟩
theorem tw_t133 : tw (Jvm.Cond.classLink "TestEmitter$Text" (9 : Nat) "TestEmitter$Chars") := ⟨List.mem_append_right _ (List.mem_append_left _ (List.mem_of_getElem? (i := 133) rfl)), by decide +kernel⟩
theorem tw_t134 : tw (Jvm.Cond.methodLink "TestEmitter$Text" (11 : Nat) ({ cls := "TestEmitter$Chars", name := "<init>", desc := "(I)V" } : Jvm.MethodName)) := ⟨List.mem_append_right _ (List.mem_append_left _ (List.mem_of_getElem? (i := 134) rfl)), by decide +kernel⟩
theorem tw_t135 : tw (Jvm.Cond.fieldLink "TestEmitter$Text" (24 : Nat) "TestEmitter$Text" "width" "I") := ⟨List.mem_append_right _ (List.mem_append_left _ (List.mem_of_getElem? (i := 135) rfl)), by decide +kernel⟩
theorem tw_t136 : tw (Jvm.Cond.fieldLink "TestEmitter$Text" (14 : Nat) "TestEmitter$Text" "chars" "LTestEmitter$Chars;") := ⟨List.mem_append_right _ (List.mem_append_left _ (List.mem_of_getElem? (i := 136) rfl)), by decide +kernel⟩
theorem tw_t137 : tw (Jvm.Cond.fieldLink "TestEmitter$Text" (20 : Nat) "TestEmitter$Text" "starts" "[I") := ⟨List.mem_append_right _ (List.mem_append_left _ (List.mem_of_getElem? (i := 137) rfl)), by decide +kernel⟩
theorem tw_t138 : tw (Jvm.Cond.fieldLink "TestEmitter$Text" (32 : Nat) "TestEmitter$Text" "lines" "I") := ⟨List.mem_append_right _ (List.mem_append_left _ (List.mem_of_getElem? (i := 138) rfl)), by decide +kernel⟩
theorem tw_t139 : tw (Jvm.Cond.fieldLink "TestEmitter$Text" (88 : Nat) "TestEmitter$Text" "nextStart" "I") := ⟨List.mem_append_right _ (List.mem_append_left _ (List.mem_of_getElem? (i := 139) rfl)), by decide +kernel⟩
theorem tw_t140 : tw (Jvm.Cond.fieldLink "TestEmitter$Text" (35 : Nat) "TestEmitter$Text" "longest" "I") := ⟨List.mem_append_right _ (List.mem_append_left _ (List.mem_of_getElem? (i := 140) rfl)), by decide +kernel⟩
theorem tw_t141 : tw (Jvm.Cond.fieldLink "TestEmitter$Text" (38 : Nat) "TestEmitter$Text" "broken" "I") := ⟨List.mem_append_right _ (List.mem_append_left _ (List.mem_of_getElem? (i := 141) rfl)), by decide +kernel⟩
theorem tw_t142 : tw (Jvm.Cond.laysFinal "TestEmitter$Text" "TestEmitter$Text" "width" "I") := ⟨List.mem_append_right _ (List.mem_append_left _ (List.mem_of_getElem? (i := 142) rfl)), by decide +kernel⟩
theorem tw_t144 : tw (Jvm.Cond.laysFinal "TestEmitter$Text" "TestEmitter$Text" "chars" "LTestEmitter$Chars;") := ⟨List.mem_append_right _ (List.mem_append_left _ (List.mem_of_getElem? (i := 144) rfl)), by decide +kernel⟩
theorem tw_t146 : tw (Jvm.Cond.lays "TestEmitter$Text" "TestEmitter$Text" "starts" "[I") := ⟨List.mem_append_right _ (List.mem_append_left _ (List.mem_of_getElem? (i := 146) rfl)), by decide +kernel⟩
theorem tw_t148 : tw (Jvm.Cond.lays "TestEmitter$Text" "TestEmitter$Text" "lines" "I") := ⟨List.mem_append_right _ (List.mem_append_left _ (List.mem_of_getElem? (i := 148) rfl)), by decide +kernel⟩
theorem tw_t150 : tw (Jvm.Cond.lays "TestEmitter$Text" "TestEmitter$Text" "nextStart" "I") := ⟨List.mem_append_right _ (List.mem_append_left _ (List.mem_of_getElem? (i := 150) rfl)), by decide +kernel⟩
theorem tw_t152 : tw (Jvm.Cond.lays "TestEmitter$Text" "TestEmitter$Text" "longest" "I") := ⟨List.mem_append_right _ (List.mem_append_left _ (List.mem_of_getElem? (i := 152) rfl)), by decide +kernel⟩
theorem tw_t154 : tw (Jvm.Cond.lays "TestEmitter$Text" "TestEmitter$Text" "broken" "I") := ⟨List.mem_append_right _ (List.mem_append_left _ (List.mem_of_getElem? (i := 154) rfl)), by decide +kernel⟩
theorem tw_t157 : tw (Jvm.Cond.fieldLink "TestEmitter" (14 : Nat) "TestEmitter" "typed" "LTestEmitter$Chars;") := ⟨List.mem_append_right _ (List.mem_append_left _ (List.mem_of_getElem? (i := 157) rfl)), by decide +kernel⟩
theorem tw_t158 : tw (Jvm.Cond.fieldLink "TestEmitter" (21 : Nat) "TestEmitter" "arguments" "LTestEmitter$TypeRow;") := ⟨List.mem_append_right _ (List.mem_append_left _ (List.mem_of_getElem? (i := 158) rfl)), by decide +kernel⟩
theorem tw_t159 : tw (Jvm.Cond.fieldLink "TestEmitter" (30 : Nat) "TestEmitter" "outcome" "LTestEmitter$Type;") := ⟨List.mem_append_right _ (List.mem_append_left _ (List.mem_of_getElem? (i := 159) rfl)), by decide +kernel⟩
theorem tw_t160 : tw (Jvm.Cond.fieldLink "TestEmitter" (37 : Nat) "TestEmitter" "builder" "LTestEmitter$Builder;") := ⟨List.mem_append_right _ (List.mem_append_left _ (List.mem_of_getElem? (i := 160) rfl)), by decide +kernel⟩
theorem tw_t161 : tw (Jvm.Cond.fieldLink "TestEmitter" (41 : Nat) "TestEmitter" "call" "LTestEmitter$Chars;") := ⟨List.mem_append_right _ (List.mem_append_left _ (List.mem_of_getElem? (i := 161) rfl)), by decide +kernel⟩
theorem tw_t162 : tw (Jvm.Cond.fieldLink "TestEmitter" (44 : Nat) "TestEmitter" "literal" "LTestEmitter$Chars;") := ⟨List.mem_append_right _ (List.mem_append_left _ (List.mem_of_getElem? (i := 162) rfl)), by decide +kernel⟩
theorem tw_t163 : tw (Jvm.Cond.fieldLink "TestEmitter" (47 : Nat) "TestEmitter" "body" "LTestEmitter$Chars;") := ⟨List.mem_append_right _ (List.mem_append_left _ (List.mem_of_getElem? (i := 163) rfl)), by decide +kernel⟩
theorem tw_t164 : tw (Jvm.Cond.fieldLink "TestEmitter" (53 : Nat) "TestEmitter" "suite" "LTestEmitter$Suite;") := ⟨List.mem_append_right _ (List.mem_append_left _ (List.mem_of_getElem? (i := 164) rfl)), by decide +kernel⟩
theorem tw_t165 : tw (Jvm.Cond.fieldLink "TestEmitter" (73 : Nat) "TestEmitter" "text" "LTestEmitter$Text;") := ⟨List.mem_append_right _ (List.mem_append_left _ (List.mem_of_getElem? (i := 165) rfl)), by decide +kernel⟩
theorem tw_t166 : tw (Jvm.Cond.fieldLink "TestEmitter" (57 : Nat) "TestEmitter" "lastTaken" "I") := ⟨List.mem_append_right _ (List.mem_append_left _ (List.mem_of_getElem? (i := 166) rfl)), by decide +kernel⟩
theorem tw_t167 : tw (Jvm.Cond.laysFinal "TestEmitter" "TestEmitter" "typed" "LTestEmitter$Chars;") := ⟨List.mem_append_right _ (List.mem_append_left _ (List.mem_of_getElem? (i := 167) rfl)), by decide +kernel⟩
theorem tw_t169 : tw (Jvm.Cond.lays "TestEmitter" "TestEmitter" "arguments" "LTestEmitter$TypeRow;") := ⟨List.mem_append_right _ (List.mem_append_left _ (List.mem_of_getElem? (i := 169) rfl)), by decide +kernel⟩
theorem tw_t171 : tw (Jvm.Cond.lays "TestEmitter" "TestEmitter" "outcome" "LTestEmitter$Type;") := ⟨List.mem_append_right _ (List.mem_append_left _ (List.mem_of_getElem? (i := 171) rfl)), by decide +kernel⟩
theorem tw_t173 : tw (Jvm.Cond.laysFinal "TestEmitter" "TestEmitter" "builder" "LTestEmitter$Builder;") := ⟨List.mem_append_right _ (List.mem_append_left _ (List.mem_of_getElem? (i := 173) rfl)), by decide +kernel⟩
theorem tw_t175 : tw (Jvm.Cond.laysFinal "TestEmitter" "TestEmitter" "call" "LTestEmitter$Chars;") := ⟨List.mem_append_right _ (List.mem_append_left _ (List.mem_of_getElem? (i := 175) rfl)), by decide +kernel⟩
theorem tw_t177 : tw (Jvm.Cond.laysFinal "TestEmitter" "TestEmitter" "literal" "LTestEmitter$Chars;") := ⟨List.mem_append_right _ (List.mem_append_left _ (List.mem_of_getElem? (i := 177) rfl)), by decide +kernel⟩
theorem tw_t179 : tw (Jvm.Cond.laysFinal "TestEmitter" "TestEmitter" "body" "LTestEmitter$Chars;") := ⟨List.mem_append_right _ (List.mem_append_left _ (List.mem_of_getElem? (i := 179) rfl)), by decide +kernel⟩
theorem tw_t181 : tw (Jvm.Cond.laysFinal "TestEmitter" "TestEmitter" "suite" "LTestEmitter$Suite;") := ⟨List.mem_append_right _ (List.mem_append_left _ (List.mem_of_getElem? (i := 181) rfl)), by decide +kernel⟩
theorem tw_t183 : tw (Jvm.Cond.laysFinal "TestEmitter" "TestEmitter" "text" "LTestEmitter$Text;") := ⟨List.mem_append_right _ (List.mem_append_left _ (List.mem_of_getElem? (i := 183) rfl)), by decide +kernel⟩
theorem tw_t185 : tw (Jvm.Cond.lays "TestEmitter" "TestEmitter" "lastTaken" "I") := ⟨List.mem_append_right _ (List.mem_append_left _ (List.mem_of_getElem? (i := 185) rfl)), by decide +kernel⟩
theorem tw_t188 : tw (Jvm.Cond.methodLink "TestEmitterLaw" (21 : Nat) ({ cls := "TestEmitter", name := "type", desc := "(I)I" } : Jvm.MethodName)) := ⟨List.mem_append_right _ (List.mem_append_left _ (List.mem_of_getElem? (i := 188) rfl)), by decide +kernel⟩
theorem tw_t189 : tw (Jvm.Cond.instanceMethod ({ cls := "TestEmitter", name := "type", desc := "(I)I" } : Jvm.MethodName)) := ⟨List.mem_append_right _ (List.mem_append_left _ (List.mem_of_getElem? (i := 189) rfl)), by decide +kernel⟩
theorem tw_t190 : tw (Jvm.Cond.selects "TestEmitter" ({ cls := "TestEmitter", name := "type", desc := "(I)I" } : Jvm.MethodName) ({ cls := "TestEmitter", name := "type", desc := "(I)I" } : Jvm.MethodName)) := ⟨List.mem_append_right _ (List.mem_append_left _ (List.mem_of_getElem? (i := 190) rfl)), by decide +kernel⟩
theorem tw_t191 : tw (Jvm.Cond.code ({ cls := "TestEmitter", name := "type", desc := "(I)I" } : Jvm.MethodName) prog_1_method_2_code (2 : Nat) (Option.some Jvm.ClassFile.FieldType.int)) := ⟨List.mem_append_right _ (List.mem_append_left _ (List.mem_of_getElem? (i := 191) rfl)), by decide +kernel⟩
theorem tw_t192 : tw (Jvm.Cond.methodLink "TestEmitter" (77 : Nat) ({ cls := "TestEmitter$Chars", name := "length", desc := "()I" } : Jvm.MethodName)) := ⟨List.mem_append_right _ (List.mem_append_left _ (List.mem_of_getElem? (i := 192) rfl)), by decide +kernel⟩
theorem tw_t193 : tw (Jvm.Cond.instanceMethod ({ cls := "TestEmitter$Chars", name := "length", desc := "()I" } : Jvm.MethodName)) := ⟨List.mem_append_right _ (List.mem_append_left _ (List.mem_of_getElem? (i := 193) rfl)), by decide +kernel⟩
theorem tw_t194 : tw (Jvm.Cond.selects "TestEmitter$Chars" ({ cls := "TestEmitter$Chars", name := "length", desc := "()I" } : Jvm.MethodName) ({ cls := "TestEmitter$Chars", name := "length", desc := "()I" } : Jvm.MethodName)) := ⟨List.mem_append_right _ (List.mem_append_left _ (List.mem_of_getElem? (i := 194) rfl)), by decide +kernel⟩
theorem tw_t195 : tw (Jvm.Cond.code ({ cls := "TestEmitter$Chars", name := "length", desc := "()I" } : Jvm.MethodName) prog_3_method_2_code (1 : Nat) (Option.some Jvm.ClassFile.FieldType.int)) := ⟨List.mem_append_right _ (List.mem_append_left _ (List.mem_of_getElem? (i := 195) rfl)), by decide +kernel⟩
theorem tw_t196 : tw (Jvm.Cond.methodLink "TestEmitter" (81 : Nat) ({ cls := "TestEmitter$Chars", name := "put", desc := "(I)V" } : Jvm.MethodName)) := ⟨List.mem_append_right _ (List.mem_append_left _ (List.mem_of_getElem? (i := 196) rfl)), by decide +kernel⟩
theorem tw_t197 : tw (Jvm.Cond.instanceMethod ({ cls := "TestEmitter$Chars", name := "put", desc := "(I)V" } : Jvm.MethodName)) := ⟨List.mem_append_right _ (List.mem_append_left _ (List.mem_of_getElem? (i := 197) rfl)), by decide +kernel⟩
theorem tw_t198 : tw (Jvm.Cond.selects "TestEmitter$Chars" ({ cls := "TestEmitter$Chars", name := "put", desc := "(I)V" } : Jvm.MethodName) ({ cls := "TestEmitter$Chars", name := "put", desc := "(I)V" } : Jvm.MethodName)) := ⟨List.mem_append_right _ (List.mem_append_left _ (List.mem_of_getElem? (i := 198) rfl)), by decide +kernel⟩
theorem tw_t199 : tw (Jvm.Cond.code ({ cls := "TestEmitter$Chars", name := "put", desc := "(I)V" } : Jvm.MethodName) prog_3_method_5_code (3 : Nat) (Option.none : Option Jvm.ClassFile.FieldType)) := ⟨List.mem_append_right _ (List.mem_append_left _ (List.mem_of_getElem? (i := 199) rfl)), by decide +kernel⟩
theorem tw_t200 : tw (Jvm.Cond.methodLink "TestEmitter$Chars" (19 : Nat) ({ cls := "java/lang/System", name := "arraycopy", desc := "(Ljava/lang/Object;ILjava/lang/Object;II)V" } : Jvm.MethodName)) := ⟨List.mem_append_right _ (List.mem_append_left _ (List.mem_of_getElem? (i := 200) rfl)), by decide +kernel⟩
theorem tw_t201 : tw (Jvm.Cond.static ({ cls := "java/lang/System", name := "arraycopy", desc := "(Ljava/lang/Object;ILjava/lang/Object;II)V" } : Jvm.MethodName)) := ⟨List.mem_append_right _ (List.mem_append_left _ (List.mem_of_getElem? (i := 201) rfl)), by decide +kernel⟩
theorem tw_t202 : tw (Jvm.Cond.native ({ cls := "java/lang/System", name := "arraycopy", desc := "(Ljava/lang/Object;ILjava/lang/Object;II)V" } : Jvm.MethodName)) := ⟨List.mem_append_right _ (List.mem_append_left _ (List.mem_of_getElem? (i := 202) rfl)), by decide +kernel⟩
theorem tw_t203 : tw (Jvm.Cond.methodLink "TestEmitterLaw" (26 : Nat) ({ cls := "TestEmitter", name := "fields", desc := "(I)I" } : Jvm.MethodName)) := ⟨List.mem_append_right _ (List.mem_append_left _ (List.mem_of_getElem? (i := 203) rfl)), by decide +kernel⟩
theorem tw_t204 : tw (Jvm.Cond.instanceMethod ({ cls := "TestEmitter", name := "fields", desc := "(I)I" } : Jvm.MethodName)) := ⟨List.mem_append_right _ (List.mem_append_left _ (List.mem_of_getElem? (i := 204) rfl)), by decide +kernel⟩
theorem tw_t205 : tw (Jvm.Cond.selects "TestEmitter" ({ cls := "TestEmitter", name := "fields", desc := "(I)I" } : Jvm.MethodName) ({ cls := "TestEmitter", name := "fields", desc := "(I)I" } : Jvm.MethodName)) := ⟨List.mem_append_right _ (List.mem_append_left _ (List.mem_of_getElem? (i := 205) rfl)), by decide +kernel⟩
theorem tw_t206 : tw (Jvm.Cond.code ({ cls := "TestEmitter", name := "fields", desc := "(I)I" } : Jvm.MethodName) prog_1_method_3_code (3 : Nat) (Option.some Jvm.ClassFile.FieldType.int)) := ⟨List.mem_append_right _ (List.mem_append_left _ (List.mem_of_getElem? (i := 206) rfl)), by decide +kernel⟩
theorem tw_t207 : tw (Jvm.Cond.methodLink "TestEmitter" (84 : Nat) ({ cls := "TestEmitter", name := "takeTypedRow", desc := "()LTestEmitter$TypeRow;" } : Jvm.MethodName)) := ⟨List.mem_append_right _ (List.mem_append_left _ (List.mem_of_getElem? (i := 207) rfl)), by decide +kernel⟩
theorem tw_t209 : tw (Jvm.Cond.instanceMethod ({ cls := "TestEmitter", name := "takeTypedRow", desc := "()LTestEmitter$TypeRow;" } : Jvm.MethodName)) := ⟨List.mem_append_right _ (List.mem_append_left _ (List.mem_of_getElem? (i := 209) rfl)), by decide +kernel⟩
theorem tw_t210 : tw (Jvm.Cond.code ({ cls := "TestEmitter", name := "takeTypedRow", desc := "()LTestEmitter$TypeRow;" } : Jvm.MethodName) prog_1_method_16_code (2 : Nat) (Option.some (Jvm.ClassFile.FieldType.object "TestEmitter$TypeRow"))) := ⟨List.mem_append_right _ (List.mem_append_left _ (List.mem_of_getElem? (i := 210) rfl)), by decide +kernel⟩
theorem tw_t211 : tw (Jvm.Cond.methodLink "TestEmitter" (168 : Nat) ({ cls := "TestEmitter$TypeRow", name := "read", desc := "(LTestEmitter$Chars;)LTestEmitter$TypeRow;" } : Jvm.MethodName)) := ⟨List.mem_append_right _ (List.mem_append_left _ (List.mem_of_getElem? (i := 211) rfl)), by decide +kernel⟩
theorem tw_t212 : tw (Jvm.Cond.static ({ cls := "TestEmitter$TypeRow", name := "read", desc := "(LTestEmitter$Chars;)LTestEmitter$TypeRow;" } : Jvm.MethodName)) := ⟨List.mem_append_right _ (List.mem_append_left _ (List.mem_of_getElem? (i := 212) rfl)), by decide +kernel⟩
theorem tw_t213 : tw (Jvm.Cond.code ({ cls := "TestEmitter$TypeRow", name := "read", desc := "(LTestEmitter$Chars;)LTestEmitter$TypeRow;" } : Jvm.MethodName) prog_8_method_2_code (4 : Nat) (Option.some (Jvm.ClassFile.FieldType.object "TestEmitter$TypeRow"))) := ⟨List.mem_append_right _ (List.mem_append_left _ (List.mem_of_getElem? (i := 213) rfl)), by decide +kernel⟩
theorem tw_t214 : tw (Jvm.Cond.classLink "TestEmitter$TypeRow" (12 : Nat) "TestEmitter$TypeRow") := ⟨List.mem_append_right _ (List.mem_append_left _ (List.mem_of_getElem? (i := 214) rfl)), by decide +kernel⟩
theorem tw_t215 : tw (Jvm.Cond.methodLink "TestEmitter$TypeRow" (17 : Nat) ({ cls := "TestEmitter$TypeRow", name := "<init>", desc := "()V" } : Jvm.MethodName)) := ⟨List.mem_append_right _ (List.mem_append_left _ (List.mem_of_getElem? (i := 215) rfl)), by decide +kernel⟩
theorem tw_t216 : tw (Jvm.Cond.methodLink "TestEmitter$TypeRow" (22 : Nat) ({ cls := "TestEmitter$Chars", name := "length", desc := "()I" } : Jvm.MethodName)) := ⟨List.mem_append_right _ (List.mem_append_left _ (List.mem_of_getElem? (i := 216) rfl)), by decide +kernel⟩
theorem tw_t217 : tw (Jvm.Cond.methodLink "TestEmitter$TypeRow" (28 : Nat) ({ cls := "TestEmitter$Type", name := "read", desc := "(LTestEmitter$Chars;I)LTestEmitter$Type;" } : Jvm.MethodName)) := ⟨List.mem_append_right _ (List.mem_append_left _ (List.mem_of_getElem? (i := 217) rfl)), by decide +kernel⟩
theorem tw_t218 : tw (Jvm.Cond.static ({ cls := "TestEmitter$Type", name := "read", desc := "(LTestEmitter$Chars;I)LTestEmitter$Type;" } : Jvm.MethodName)) := ⟨List.mem_append_right _ (List.mem_append_left _ (List.mem_of_getElem? (i := 218) rfl)), by decide +kernel⟩
theorem tw_t219 : tw (Jvm.Cond.code ({ cls := "TestEmitter$Type", name := "read", desc := "(LTestEmitter$Chars;I)LTestEmitter$Type;" } : Jvm.MethodName) prog_7_method_2_code (6 : Nat) (Option.some (Jvm.ClassFile.FieldType.object "TestEmitter$Type"))) := ⟨List.mem_append_right _ (List.mem_append_left _ (List.mem_of_getElem? (i := 219) rfl)), by decide +kernel⟩
theorem tw_t220 : tw (Jvm.Cond.methodLink "TestEmitter$Type" (21 : Nat) ({ cls := "TestEmitter$Chars", name := "length", desc := "()I" } : Jvm.MethodName)) := ⟨List.mem_append_right _ (List.mem_append_left _ (List.mem_of_getElem? (i := 220) rfl)), by decide +kernel⟩
theorem tw_t221 : tw (Jvm.Cond.methodLink "TestEmitter$Type" (27 : Nat) ({ cls := "TestEmitter$Chars", name := "get", desc := "(I)I" } : Jvm.MethodName)) := ⟨List.mem_append_right _ (List.mem_append_left _ (List.mem_of_getElem? (i := 221) rfl)), by decide +kernel⟩
theorem tw_t222 : tw (Jvm.Cond.instanceMethod ({ cls := "TestEmitter$Chars", name := "get", desc := "(I)I" } : Jvm.MethodName)) := ⟨List.mem_append_right _ (List.mem_append_left _ (List.mem_of_getElem? (i := 222) rfl)), by decide +kernel⟩
theorem tw_t223 : tw (Jvm.Cond.selects "TestEmitter$Chars" ({ cls := "TestEmitter$Chars", name := "get", desc := "(I)I" } : Jvm.MethodName) ({ cls := "TestEmitter$Chars", name := "get", desc := "(I)I" } : Jvm.MethodName)) := ⟨List.mem_append_right _ (List.mem_append_left _ (List.mem_of_getElem? (i := 223) rfl)), by decide +kernel⟩
theorem tw_t224 : tw (Jvm.Cond.code ({ cls := "TestEmitter$Chars", name := "get", desc := "(I)I" } : Jvm.MethodName) prog_3_method_3_code (2 : Nat) (Option.some Jvm.ClassFile.FieldType.int)) := ⟨List.mem_append_right _ (List.mem_append_left _ (List.mem_of_getElem? (i := 224) rfl)), by decide +kernel⟩
theorem tw_t225 : tw (Jvm.Cond.classLink "TestEmitter$Type" (10 : Nat) "TestEmitter$Type") := ⟨List.mem_append_right _ (List.mem_append_left _ (List.mem_of_getElem? (i := 225) rfl)), by decide +kernel⟩
theorem tw_t226 : tw (Jvm.Cond.methodLink "TestEmitter$Type" (31 : Nat) ({ cls := "TestEmitter$Type", name := "<init>", desc := "(III)V" } : Jvm.MethodName)) := ⟨List.mem_append_right _ (List.mem_append_left _ (List.mem_of_getElem? (i := 226) rfl)), by decide +kernel⟩
theorem tw_t228 : tw (Jvm.Cond.methodLink "TestEmitter$Type" (36 : Nat) ({ cls := "java/lang/String", name := "indexOf", desc := "(I)I" } : Jvm.MethodName)) := ⟨List.mem_append_right _ (List.mem_append_left _ (List.mem_of_getElem? (i := 228) rfl)), by decide +kernel⟩
theorem tw_t229 : tw (Jvm.Cond.instanceMethod ({ cls := "java/lang/String", name := "indexOf", desc := "(I)I" } : Jvm.MethodName)) := ⟨List.mem_append_right _ (List.mem_append_left _ (List.mem_of_getElem? (i := 229) rfl)), by decide +kernel⟩
theorem tw_t230 : tw (Jvm.Cond.selects "java/lang/String" ({ cls := "java/lang/String", name := "indexOf", desc := "(I)I" } : Jvm.MethodName) ({ cls := "java/lang/String", name := "indexOf", desc := "(I)I" } : Jvm.MethodName)) := ⟨List.mem_append_right _ (List.mem_append_left _ (List.mem_of_getElem? (i := 230) rfl)), by decide +kernel⟩
theorem tw_t231 : tw (Jvm.Cond.code ({ cls := "java/lang/String", name := "indexOf", desc := "(I)I" } : Jvm.MethodName) prog_13_method_79_code (2 : Nat) (Option.some Jvm.ClassFile.FieldType.int)) := ⟨List.mem_append_right _ (List.mem_append_left _ (List.mem_of_getElem? (i := 231) rfl)), by decide +kernel⟩
theorem tw_t232 : tw (Jvm.Cond.methodLink "java/lang/String" (633 : Nat) ({ cls := "java/lang/String", name := "indexOf", desc := "(II)I" } : Jvm.MethodName)) := ⟨List.mem_append_right _ (List.mem_append_left _ (List.mem_of_getElem? (i := 232) rfl)), by decide +kernel⟩
theorem tw_t233 : tw (Jvm.Cond.instanceMethod ({ cls := "java/lang/String", name := "indexOf", desc := "(II)I" } : Jvm.MethodName)) := ⟨List.mem_append_right _ (List.mem_append_left _ (List.mem_of_getElem? (i := 233) rfl)), by decide +kernel⟩
theorem tw_t234 : tw (Jvm.Cond.selects "java/lang/String" ({ cls := "java/lang/String", name := "indexOf", desc := "(II)I" } : Jvm.MethodName) ({ cls := "java/lang/String", name := "indexOf", desc := "(II)I" } : Jvm.MethodName)) := ⟨List.mem_append_right _ (List.mem_append_left _ (List.mem_of_getElem? (i := 234) rfl)), by decide +kernel⟩
theorem tw_t235 : tw (Jvm.Cond.code ({ cls := "java/lang/String", name := "indexOf", desc := "(II)I" } : Jvm.MethodName) prog_13_method_80_code (3 : Nat) (Option.some Jvm.ClassFile.FieldType.int)) := ⟨List.mem_append_right _ (List.mem_append_left _ (List.mem_of_getElem? (i := 235) rfl)), by decide +kernel⟩
theorem tw_t236 : tw (Jvm.Cond.methodLink "java/lang/String" (492 : Nat) ({ cls := "java/lang/String", name := "isLatin1", desc := "()Z" } : Jvm.MethodName)) := ⟨List.mem_append_right _ (List.mem_append_left _ (List.mem_of_getElem? (i := 236) rfl)), by decide +kernel⟩
theorem tw_t237 : tw (Jvm.Cond.instanceMethod ({ cls := "java/lang/String", name := "isLatin1", desc := "()Z" } : Jvm.MethodName)) := ⟨List.mem_append_right _ (List.mem_append_left _ (List.mem_of_getElem? (i := 237) rfl)), by decide +kernel⟩
theorem tw_t238 : tw (Jvm.Cond.selects "java/lang/String" ({ cls := "java/lang/String", name := "isLatin1", desc := "()Z" } : Jvm.MethodName) ({ cls := "java/lang/String", name := "isLatin1", desc := "()Z" } : Jvm.MethodName)) := ⟨List.mem_append_right _ (List.mem_append_left _ (List.mem_of_getElem? (i := 238) rfl)), by decide +kernel⟩
theorem tw_t239 : tw (Jvm.Cond.code ({ cls := "java/lang/String", name := "isLatin1", desc := "()Z" } : Jvm.MethodName) prog_13_method_154_code (1 : Nat) (Option.some Jvm.ClassFile.FieldType.boolean)) := ⟨List.mem_append_right _ (List.mem_append_left _ (List.mem_of_getElem? (i := 239) rfl)), by decide +kernel⟩
theorem tw_t240 : tw (Jvm.Cond.fieldLink "java/lang/String" (38 : Nat) "java/lang/String" "COMPACT_STRINGS" "Z") := ⟨List.mem_append_right _ (List.mem_append_right _ (List.mem_append_left _ (List.mem_of_getElem? (i := 0) rfl))), by decide +kernel⟩
theorem tw_t242 : tw (Jvm.Cond.methodLink "java/lang/String" (505 : Nat) ({ cls := "java/lang/String", name := "length", desc := "()I" } : Jvm.MethodName)) := ⟨List.mem_append_right _ (List.mem_append_right _ (List.mem_append_left _ (List.mem_of_getElem? (i := 2) rfl))), by decide +kernel⟩
theorem tw_t243 : tw (Jvm.Cond.instanceMethod ({ cls := "java/lang/String", name := "length", desc := "()I" } : Jvm.MethodName)) := ⟨List.mem_append_right _ (List.mem_append_right _ (List.mem_append_left _ (List.mem_of_getElem? (i := 3) rfl))), by decide +kernel⟩
theorem tw_t244 : tw (Jvm.Cond.selects "java/lang/String" ({ cls := "java/lang/String", name := "length", desc := "()I" } : Jvm.MethodName) ({ cls := "java/lang/String", name := "length", desc := "()I" } : Jvm.MethodName)) := ⟨List.mem_append_right _ (List.mem_append_right _ (List.mem_append_left _ (List.mem_of_getElem? (i := 4) rfl))), by decide +kernel⟩
theorem tw_t245 : tw (Jvm.Cond.code ({ cls := "java/lang/String", name := "length", desc := "()I" } : Jvm.MethodName) prog_13_method_54_code (1 : Nat) (Option.some Jvm.ClassFile.FieldType.int)) := ⟨List.mem_append_right _ (List.mem_append_right _ (List.mem_append_left _ (List.mem_of_getElem? (i := 5) rfl))), by decide +kernel⟩
theorem tw_t246 : tw (Jvm.Cond.methodLink "java/lang/String" (335 : Nat) ({ cls := "java/lang/String", name := "coder", desc := "()B" } : Jvm.MethodName)) := ⟨List.mem_append_right _ (List.mem_append_right _ (List.mem_append_left _ (List.mem_of_getElem? (i := 6) rfl))), by decide +kernel⟩
theorem tw_t247 : tw (Jvm.Cond.instanceMethod ({ cls := "java/lang/String", name := "coder", desc := "()B" } : Jvm.MethodName)) := ⟨List.mem_append_right _ (List.mem_append_right _ (List.mem_append_left _ (List.mem_of_getElem? (i := 7) rfl))), by decide +kernel⟩
theorem tw_t248 : tw (Jvm.Cond.selects "java/lang/String" ({ cls := "java/lang/String", name := "coder", desc := "()B" } : Jvm.MethodName) ({ cls := "java/lang/String", name := "coder", desc := "()B" } : Jvm.MethodName)) := ⟨List.mem_append_right _ (List.mem_append_right _ (List.mem_append_left _ (List.mem_of_getElem? (i := 8) rfl))), by decide +kernel⟩
theorem tw_t249 : tw (Jvm.Cond.code ({ cls := "java/lang/String", name := "coder", desc := "()B" } : Jvm.MethodName) prog_13_method_152_code (1 : Nat) (Option.some Jvm.ClassFile.FieldType.byte)) := ⟨List.mem_append_right _ (List.mem_append_right _ (List.mem_append_left _ (List.mem_of_getElem? (i := 9) rfl))), by decide +kernel⟩
theorem tw_t250 : tw (Jvm.Cond.methodLink "java/lang/String" (637 : Nat) ({ cls := "java/lang/StringLatin1", name := "indexOf", desc := "([BIII)I" } : Jvm.MethodName)) := ⟨List.mem_append_right _ (List.mem_append_right _ (List.mem_append_left _ (List.mem_of_getElem? (i := 10) rfl))), by decide +kernel⟩
theorem tw_t251 : tw (Jvm.Cond.static ({ cls := "java/lang/StringLatin1", name := "indexOf", desc := "([BIII)I" } : Jvm.MethodName)) := ⟨List.mem_append_right _ (List.mem_append_right _ (List.mem_append_left _ (List.mem_of_getElem? (i := 11) rfl))), by decide +kernel⟩
theorem tw_t252 : tw (Jvm.Cond.code ({ cls := "java/lang/StringLatin1", name := "indexOf", desc := "([BIII)I" } : Jvm.MethodName) prog_14_method_22_code (4 : Nat) (Option.some Jvm.ClassFile.FieldType.int)) := ⟨List.mem_append_right _ (List.mem_append_right _ (List.mem_append_left _ (List.mem_of_getElem? (i := 12) rfl))), by decide +kernel⟩
theorem tw_t253 : tw (Jvm.Cond.methodLink "java/lang/StringLatin1" (88 : Nat) ({ cls := "java/lang/StringLatin1", name := "canEncode", desc := "(I)Z" } : Jvm.MethodName)) := ⟨List.mem_append_right _ (List.mem_append_right _ (List.mem_append_left _ (List.mem_of_getElem? (i := 13) rfl))), by decide +kernel⟩
theorem tw_t254 : tw (Jvm.Cond.static ({ cls := "java/lang/StringLatin1", name := "canEncode", desc := "(I)Z" } : Jvm.MethodName)) := ⟨List.mem_append_right _ (List.mem_append_right _ (List.mem_append_left _ (List.mem_of_getElem? (i := 14) rfl))), by decide +kernel⟩
theorem tw_t255 : tw (Jvm.Cond.code ({ cls := "java/lang/StringLatin1", name := "canEncode", desc := "(I)Z" } : Jvm.MethodName) prog_14_method_4_code (1 : Nat) (Option.some Jvm.ClassFile.FieldType.boolean)) := ⟨List.mem_append_right _ (List.mem_append_right _ (List.mem_append_left _ (List.mem_of_getElem? (i := 15) rfl))), by decide +kernel⟩
theorem tw_t256 : tw (Jvm.Cond.methodLink "java/lang/StringLatin1" (92 : Nat) ({ cls := "java/lang/Math", name := "max", desc := "(II)I" } : Jvm.MethodName)) := ⟨List.mem_append_right _ (List.mem_append_right _ (List.mem_append_left _ (List.mem_of_getElem? (i := 16) rfl))), by decide +kernel⟩
theorem tw_t257 : tw (Jvm.Cond.methodLink "java/lang/StringLatin1" (38 : Nat) ({ cls := "java/lang/Math", name := "min", desc := "(II)I" } : Jvm.MethodName)) := ⟨List.mem_append_right _ (List.mem_append_right _ (List.mem_append_left _ (List.mem_of_getElem? (i := 17) rfl))), by decide +kernel⟩
theorem tw_t258 : tw (Jvm.Cond.methodLink "java/lang/StringLatin1" (95 : Nat) ({ cls := "java/lang/StringLatin1", name := "indexOfChar", desc := "([BIII)I" } : Jvm.MethodName)) := ⟨List.mem_append_right _ (List.mem_append_right _ (List.mem_append_left _ (List.mem_of_getElem? (i := 18) rfl))), by decide +kernel⟩
theorem tw_t259 : tw (Jvm.Cond.static ({ cls := "java/lang/StringLatin1", name := "indexOfChar", desc := "([BIII)I" } : Jvm.MethodName)) := ⟨List.mem_append_right _ (List.mem_append_right _ (List.mem_append_left _ (List.mem_of_getElem? (i := 19) rfl))), by decide +kernel⟩
theorem tw_t260 : tw (Jvm.Cond.code ({ cls := "java/lang/StringLatin1", name := "indexOfChar", desc := "([BIII)I" } : Jvm.MethodName) prog_14_method_23_code (6 : Nat) (Option.some Jvm.ClassFile.FieldType.int)) := ⟨List.mem_append_right _ (List.mem_append_right _ (List.mem_append_left _ (List.mem_of_getElem? (i := 20) rfl))), by decide +kernel⟩
theorem tw_t279 : tw (Jvm.Cond.fieldLink "java/lang/String" (1053 : Nat) "jdk/internal/util/Preconditions" "SIOOBE_FORMATTER" "Ljava/util/function/BiFunction;") := ⟨List.mem_append_right _ (List.mem_append_right _ (List.mem_append_left _ (List.mem_of_getElem? (i := 39) rfl))), by decide +kernel⟩
theorem tw_t310 : tw (Jvm.Cond.methodLink "TestEmitter$TypeRow" (32 : Nat) ({ cls := "TestEmitter$Type", name := "spelledLength", desc := "()I" } : Jvm.MethodName)) := ⟨List.mem_append_right _ (List.mem_append_right _ (List.mem_append_left _ (List.mem_of_getElem? (i := 70) rfl))), by decide +kernel⟩
theorem tw_t311 : tw (Jvm.Cond.instanceMethod ({ cls := "TestEmitter$Type", name := "spelledLength", desc := "()I" } : Jvm.MethodName)) := ⟨List.mem_append_right _ (List.mem_append_right _ (List.mem_append_left _ (List.mem_of_getElem? (i := 71) rfl))), by decide +kernel⟩
theorem tw_t312 : tw (Jvm.Cond.selects "TestEmitter$Type" ({ cls := "TestEmitter$Type", name := "spelledLength", desc := "()I" } : Jvm.MethodName) ({ cls := "TestEmitter$Type", name := "spelledLength", desc := "()I" } : Jvm.MethodName)) := ⟨List.mem_append_right _ (List.mem_append_right _ (List.mem_append_left _ (List.mem_of_getElem? (i := 72) rfl))), by decide +kernel⟩
theorem tw_t313 : tw (Jvm.Cond.code ({ cls := "TestEmitter$Type", name := "spelledLength", desc := "()I" } : Jvm.MethodName) prog_7_method_4_code (1 : Nat) (Option.some Jvm.ClassFile.FieldType.int)) := ⟨List.mem_append_right _ (List.mem_append_right _ (List.mem_append_left _ (List.mem_of_getElem? (i := 73) rfl))), by decide +kernel⟩
theorem tw_t314 : tw (Jvm.Cond.methodLink "TestEmitter" (99 : Nat) ({ cls := "TestEmitter$Chars", name := "empty", desc := "()V" } : Jvm.MethodName)) := ⟨List.mem_append_right _ (List.mem_append_right _ (List.mem_append_left _ (List.mem_of_getElem? (i := 74) rfl))), by decide +kernel⟩
theorem tw_t315 : tw (Jvm.Cond.instanceMethod ({ cls := "TestEmitter$Chars", name := "empty", desc := "()V" } : Jvm.MethodName)) := ⟨List.mem_append_right _ (List.mem_append_right _ (List.mem_append_left _ (List.mem_of_getElem? (i := 75) rfl))), by decide +kernel⟩
theorem tw_t316 : tw (Jvm.Cond.selects "TestEmitter$Chars" ({ cls := "TestEmitter$Chars", name := "empty", desc := "()V" } : Jvm.MethodName) ({ cls := "TestEmitter$Chars", name := "empty", desc := "()V" } : Jvm.MethodName)) := ⟨List.mem_append_right _ (List.mem_append_right _ (List.mem_append_left _ (List.mem_of_getElem? (i := 76) rfl))), by decide +kernel⟩
theorem tw_t317 : tw (Jvm.Cond.code ({ cls := "TestEmitter$Chars", name := "empty", desc := "()V" } : Jvm.MethodName) prog_3_method_4_code (1 : Nat) (Option.none : Option Jvm.ClassFile.FieldType)) := ⟨List.mem_append_right _ (List.mem_append_right _ (List.mem_append_left _ (List.mem_of_getElem? (i := 77) rfl))), by decide +kernel⟩
theorem tw_t318 : tw (Jvm.Cond.methodLink "TestEmitter" (88 : Nat) ({ cls := "TestEmitter$Builder", name := "setFields", desc := "(ILTestEmitter$TypeRow;)V" } : Jvm.MethodName)) := ⟨List.mem_append_right _ (List.mem_append_right _ (List.mem_append_left _ (List.mem_of_getElem? (i := 78) rfl))), by decide +kernel⟩
theorem tw_t319 : tw (Jvm.Cond.instanceMethod ({ cls := "TestEmitter$Builder", name := "setFields", desc := "(ILTestEmitter$TypeRow;)V" } : Jvm.MethodName)) := ⟨List.mem_append_right _ (List.mem_append_right _ (List.mem_append_left _ (List.mem_of_getElem? (i := 79) rfl))), by decide +kernel⟩
theorem tw_t320 : tw (Jvm.Cond.selects "TestEmitter$Builder" ({ cls := "TestEmitter$Builder", name := "setFields", desc := "(ILTestEmitter$TypeRow;)V" } : Jvm.MethodName) ({ cls := "TestEmitter$Builder", name := "setFields", desc := "(ILTestEmitter$TypeRow;)V" } : Jvm.MethodName)) := ⟨List.mem_append_right _ (List.mem_append_right _ (List.mem_append_left _ (List.mem_of_getElem? (i := 80) rfl))), by decide +kernel⟩
theorem tw_t321 : tw (Jvm.Cond.code ({ cls := "TestEmitter$Builder", name := "setFields", desc := "(ILTestEmitter$TypeRow;)V" } : Jvm.MethodName) prog_2_method_3_code (3 : Nat) (Option.none : Option Jvm.ClassFile.FieldType)) := ⟨List.mem_append_right _ (List.mem_append_right _ (List.mem_append_left _ (List.mem_of_getElem? (i := 81) rfl))), by decide +kernel⟩
theorem tw_t322 : tw (Jvm.Cond.methodLink "TestEmitter" (92 : Nat) ({ cls := "TestEmitter$TypeRow", name := "size", desc := "()I" } : Jvm.MethodName)) := ⟨List.mem_append_right _ (List.mem_append_right _ (List.mem_append_left _ (List.mem_of_getElem? (i := 82) rfl))), by decide +kernel⟩
theorem tw_t323 : tw (Jvm.Cond.instanceMethod ({ cls := "TestEmitter$TypeRow", name := "size", desc := "()I" } : Jvm.MethodName)) := ⟨List.mem_append_right _ (List.mem_append_right _ (List.mem_append_left _ (List.mem_of_getElem? (i := 83) rfl))), by decide +kernel⟩
theorem tw_t324 : tw (Jvm.Cond.selects "TestEmitter$TypeRow" ({ cls := "TestEmitter$TypeRow", name := "size", desc := "()I" } : Jvm.MethodName) ({ cls := "TestEmitter$TypeRow", name := "size", desc := "()I" } : Jvm.MethodName)) := ⟨List.mem_append_right _ (List.mem_append_right _ (List.mem_append_left _ (List.mem_of_getElem? (i := 84) rfl))), by decide +kernel⟩
theorem tw_t325 : tw (Jvm.Cond.code ({ cls := "TestEmitter$TypeRow", name := "size", desc := "()I" } : Jvm.MethodName) prog_8_method_3_code (1 : Nat) (Option.some Jvm.ClassFile.FieldType.int)) := ⟨List.mem_append_right _ (List.mem_append_right _ (List.mem_append_left _ (List.mem_of_getElem? (i := 85) rfl))), by decide +kernel⟩
theorem tw_t327 : tw (Jvm.Cond.methodLink "TestEmitterLaw" (30 : Nat) ({ cls := "TestEmitter", name := "parameters", desc := "()I" } : Jvm.MethodName)) := ⟨List.mem_append_right _ (List.mem_append_right _ (List.mem_append_left _ (List.mem_of_getElem? (i := 87) rfl))), by decide +kernel⟩
theorem tw_t328 : tw (Jvm.Cond.instanceMethod ({ cls := "TestEmitter", name := "parameters", desc := "()I" } : Jvm.MethodName)) := ⟨List.mem_append_right _ (List.mem_append_right _ (List.mem_append_left _ (List.mem_of_getElem? (i := 88) rfl))), by decide +kernel⟩
theorem tw_t329 : tw (Jvm.Cond.selects "TestEmitter" ({ cls := "TestEmitter", name := "parameters", desc := "()I" } : Jvm.MethodName) ({ cls := "TestEmitter", name := "parameters", desc := "()I" } : Jvm.MethodName)) := ⟨List.mem_append_right _ (List.mem_append_right _ (List.mem_append_left _ (List.mem_of_getElem? (i := 89) rfl))), by decide +kernel⟩
theorem tw_t330 : tw (Jvm.Cond.code ({ cls := "TestEmitter", name := "parameters", desc := "()I" } : Jvm.MethodName) prog_1_method_4_code (2 : Nat) (Option.some Jvm.ClassFile.FieldType.int)) := ⟨List.mem_append_right _ (List.mem_append_right _ (List.mem_append_left _ (List.mem_of_getElem? (i := 90) rfl))), by decide +kernel⟩
theorem tw_t331 : tw (Jvm.Cond.methodLink "TestEmitterLaw" (35 : Nat) ({ cls := "TestEmitter", name := "result", desc := "()I" } : Jvm.MethodName)) := ⟨List.mem_append_right _ (List.mem_append_right _ (List.mem_append_left _ (List.mem_of_getElem? (i := 91) rfl))), by decide +kernel⟩
theorem tw_t332 : tw (Jvm.Cond.instanceMethod ({ cls := "TestEmitter", name := "result", desc := "()I" } : Jvm.MethodName)) := ⟨List.mem_append_right _ (List.mem_append_right _ (List.mem_append_left _ (List.mem_of_getElem? (i := 92) rfl))), by decide +kernel⟩
theorem tw_t333 : tw (Jvm.Cond.selects "TestEmitter" ({ cls := "TestEmitter", name := "result", desc := "()I" } : Jvm.MethodName) ({ cls := "TestEmitter", name := "result", desc := "()I" } : Jvm.MethodName)) := ⟨List.mem_append_right _ (List.mem_append_right _ (List.mem_append_left _ (List.mem_of_getElem? (i := 93) rfl))), by decide +kernel⟩
theorem tw_t334 : tw (Jvm.Cond.code ({ cls := "TestEmitter", name := "result", desc := "()I" } : Jvm.MethodName) prog_1_method_5_code (2 : Nat) (Option.some Jvm.ClassFile.FieldType.int)) := ⟨List.mem_append_right _ (List.mem_append_right _ (List.mem_append_left _ (List.mem_of_getElem? (i := 94) rfl))), by decide +kernel⟩
theorem tw_t335 : tw (Jvm.Cond.methodLink "TestEmitter" (95 : Nat) ({ cls := "TestEmitter$Type", name := "readResult", desc := "(LTestEmitter$Chars;)LTestEmitter$Type;" } : Jvm.MethodName)) := ⟨List.mem_append_right _ (List.mem_append_right _ (List.mem_append_left _ (List.mem_of_getElem? (i := 95) rfl))), by decide +kernel⟩
theorem tw_t336 : tw (Jvm.Cond.static ({ cls := "TestEmitter$Type", name := "readResult", desc := "(LTestEmitter$Chars;)LTestEmitter$Type;" } : Jvm.MethodName)) := ⟨List.mem_append_right _ (List.mem_append_right _ (List.mem_append_left _ (List.mem_of_getElem? (i := 96) rfl))), by decide +kernel⟩
theorem tw_t337 : tw (Jvm.Cond.code ({ cls := "TestEmitter$Type", name := "readResult", desc := "(LTestEmitter$Chars;)LTestEmitter$Type;" } : Jvm.MethodName) prog_7_method_3_code (2 : Nat) (Option.some (Jvm.ClassFile.FieldType.object "TestEmitter$Type"))) := ⟨List.mem_append_right _ (List.mem_append_right _ (List.mem_append_left _ (List.mem_of_getElem? (i := 97) rfl))), by decide +kernel⟩
theorem tw_t339 : tw (Jvm.Cond.methodLink "TestEmitter$Type" (43 : Nat) ({ cls := "TestEmitter$Chars", name := "holds", desc := "(Ljava/lang/String;)Z" } : Jvm.MethodName)) := ⟨List.mem_append_right _ (List.mem_append_right _ (List.mem_append_left _ (List.mem_of_getElem? (i := 99) rfl))), by decide +kernel⟩
theorem tw_t340 : tw (Jvm.Cond.instanceMethod ({ cls := "TestEmitter$Chars", name := "holds", desc := "(Ljava/lang/String;)Z" } : Jvm.MethodName)) := ⟨List.mem_append_right _ (List.mem_append_right _ (List.mem_append_left _ (List.mem_of_getElem? (i := 100) rfl))), by decide +kernel⟩
theorem tw_t341 : tw (Jvm.Cond.selects "TestEmitter$Chars" ({ cls := "TestEmitter$Chars", name := "holds", desc := "(Ljava/lang/String;)Z" } : Jvm.MethodName) ({ cls := "TestEmitter$Chars", name := "holds", desc := "(Ljava/lang/String;)Z" } : Jvm.MethodName)) := ⟨List.mem_append_right _ (List.mem_append_right _ (List.mem_append_left _ (List.mem_of_getElem? (i := 101) rfl))), by decide +kernel⟩
theorem tw_t342 : tw (Jvm.Cond.code ({ cls := "TestEmitter$Chars", name := "holds", desc := "(Ljava/lang/String;)Z" } : Jvm.MethodName) prog_3_method_11_code (3 : Nat) (Option.some Jvm.ClassFile.FieldType.boolean)) := ⟨List.mem_append_right _ (List.mem_append_right _ (List.mem_append_left _ (List.mem_of_getElem? (i := 102) rfl))), by decide +kernel⟩
theorem tw_t343 : tw (Jvm.Cond.methodLink "TestEmitter$Chars" (25 : Nat) ({ cls := "java/lang/String", name := "length", desc := "()I" } : Jvm.MethodName)) := ⟨List.mem_append_right _ (List.mem_append_right _ (List.mem_append_left _ (List.mem_of_getElem? (i := 103) rfl))), by decide +kernel⟩
theorem tw_t344 : tw (Jvm.Cond.methodLink "TestEmitter$Chars" (30 : Nat) ({ cls := "java/lang/String", name := "charAt", desc := "(I)C" } : Jvm.MethodName)) := ⟨List.mem_append_right _ (List.mem_append_right _ (List.mem_append_left _ (List.mem_of_getElem? (i := 104) rfl))), by decide +kernel⟩
theorem tw_t345 : tw (Jvm.Cond.instanceMethod ({ cls := "java/lang/String", name := "charAt", desc := "(I)C" } : Jvm.MethodName)) := ⟨List.mem_append_right _ (List.mem_append_right _ (List.mem_append_left _ (List.mem_of_getElem? (i := 105) rfl))), by decide +kernel⟩
theorem tw_t346 : tw (Jvm.Cond.selects "java/lang/String" ({ cls := "java/lang/String", name := "charAt", desc := "(I)C" } : Jvm.MethodName) ({ cls := "java/lang/String", name := "charAt", desc := "(I)C" } : Jvm.MethodName)) := ⟨List.mem_append_right _ (List.mem_append_right _ (List.mem_append_left _ (List.mem_of_getElem? (i := 106) rfl))), by decide +kernel⟩
theorem tw_t347 : tw (Jvm.Cond.code ({ cls := "java/lang/String", name := "charAt", desc := "(I)C" } : Jvm.MethodName) prog_13_method_56_code (2 : Nat) (Option.some Jvm.ClassFile.FieldType.char)) := ⟨List.mem_append_right _ (List.mem_append_right _ (List.mem_append_left _ (List.mem_of_getElem? (i := 107) rfl))), by decide +kernel⟩
theorem tw_t348 : tw (Jvm.Cond.methodLink "java/lang/String" (495 : Nat) ({ cls := "java/lang/StringLatin1", name := "charAt", desc := "([BI)C" } : Jvm.MethodName)) := ⟨List.mem_append_right _ (List.mem_append_right _ (List.mem_append_left _ (List.mem_of_getElem? (i := 108) rfl))), by decide +kernel⟩
theorem tw_t349 : tw (Jvm.Cond.static ({ cls := "java/lang/StringLatin1", name := "charAt", desc := "([BI)C" } : Jvm.MethodName)) := ⟨List.mem_append_right _ (List.mem_append_right _ (List.mem_append_left _ (List.mem_of_getElem? (i := 109) rfl))), by decide +kernel⟩
theorem tw_t350 : tw (Jvm.Cond.code ({ cls := "java/lang/StringLatin1", name := "charAt", desc := "([BI)C" } : Jvm.MethodName) prog_14_method_2_code (2 : Nat) (Option.some Jvm.ClassFile.FieldType.char)) := ⟨List.mem_append_right _ (List.mem_append_right _ (List.mem_append_left _ (List.mem_of_getElem? (i := 110) rfl))), by decide +kernel⟩
theorem tw_t351 : tw (Jvm.Cond.methodLink "java/lang/StringLatin1" (9 : Nat) ({ cls := "java/lang/String", name := "checkIndex", desc := "(II)V" } : Jvm.MethodName)) := ⟨List.mem_append_right _ (List.mem_append_right _ (List.mem_append_left _ (List.mem_of_getElem? (i := 111) rfl))), by decide +kernel⟩
theorem tw_t352 : tw (Jvm.Cond.static ({ cls := "java/lang/String", name := "checkIndex", desc := "(II)V" } : Jvm.MethodName)) := ⟨List.mem_append_right _ (List.mem_append_right _ (List.mem_append_left _ (List.mem_of_getElem? (i := 112) rfl))), by decide +kernel⟩
theorem tw_t353 : tw (Jvm.Cond.code ({ cls := "java/lang/String", name := "checkIndex", desc := "(II)V" } : Jvm.MethodName) prog_13_method_155_code (2 : Nat) (Option.none : Option Jvm.ClassFile.FieldType)) := ⟨List.mem_append_right _ (List.mem_append_right _ (List.mem_append_left _ (List.mem_of_getElem? (i := 113) rfl))), by decide +kernel⟩
theorem tw_t354 : tw (Jvm.Cond.methodLink "java/lang/String" (1059 : Nat) ({ cls := "jdk/internal/util/Preconditions", name := "checkIndex", desc := "(IILjava/util/function/BiFunction;)I" } : Jvm.MethodName)) := ⟨List.mem_append_right _ (List.mem_append_right _ (List.mem_append_left _ (List.mem_of_getElem? (i := 114) rfl))), by decide +kernel⟩
theorem tw_t355 : tw (Jvm.Cond.static ({ cls := "jdk/internal/util/Preconditions", name := "checkIndex", desc := "(IILjava/util/function/BiFunction;)I" } : Jvm.MethodName)) := ⟨List.mem_append_right _ (List.mem_append_right _ (List.mem_append_left _ (List.mem_of_getElem? (i := 115) rfl))), by decide +kernel⟩
theorem tw_t356 : tw (Jvm.Cond.code ({ cls := "jdk/internal/util/Preconditions", name := "checkIndex", desc := "(IILjava/util/function/BiFunction;)I" } : Jvm.MethodName) prog_17_method_11_code (3 : Nat) (Option.some Jvm.ClassFile.FieldType.int)) := ⟨List.mem_append_right _ (List.mem_append_right _ (List.mem_append_left _ (List.mem_of_getElem? (i := 116) rfl))), by decide +kernel⟩
theorem tw_t364 : tw (Jvm.Cond.methodLink "TestEmitter$Type" (47 : Nat) ({ cls := "TestEmitter$Type", name := "read", desc := "(LTestEmitter$Chars;I)LTestEmitter$Type;" } : Jvm.MethodName)) := ⟨List.mem_append_right _ (List.mem_append_right _ (List.mem_append_left _ (List.mem_of_getElem? (i := 124) rfl))), by decide +kernel⟩
theorem tw_t365 : tw (Jvm.Cond.methodLink "TestEmitter$Type" (51 : Nat) ({ cls := "TestEmitter$Type", name := "spelledLength", desc := "()I" } : Jvm.MethodName)) := ⟨List.mem_append_right _ (List.mem_append_right _ (List.mem_append_left _ (List.mem_of_getElem? (i := 125) rfl))), by decide +kernel⟩
theorem tw_t366 : tw (Jvm.Cond.methodLink "TestEmitterLaw" (39 : Nat) ({ cls := "TestEmitter", name := "data", desc := "(I)I" } : Jvm.MethodName)) := ⟨List.mem_append_right _ (List.mem_append_right _ (List.mem_append_left _ (List.mem_of_getElem? (i := 126) rfl))), by decide +kernel⟩
theorem tw_t367 : tw (Jvm.Cond.instanceMethod ({ cls := "TestEmitter", name := "data", desc := "(I)I" } : Jvm.MethodName)) := ⟨List.mem_append_right _ (List.mem_append_right _ (List.mem_append_left _ (List.mem_of_getElem? (i := 127) rfl))), by decide +kernel⟩
theorem tw_t368 : tw (Jvm.Cond.selects "TestEmitter" ({ cls := "TestEmitter", name := "data", desc := "(I)I" } : Jvm.MethodName) ({ cls := "TestEmitter", name := "data", desc := "(I)I" } : Jvm.MethodName)) := ⟨List.mem_append_right _ (List.mem_append_right _ (List.mem_append_left _ (List.mem_of_getElem? (i := 128) rfl))), by decide +kernel⟩
theorem tw_t369 : tw (Jvm.Cond.code ({ cls := "TestEmitter", name := "data", desc := "(I)I" } : Jvm.MethodName) prog_1_method_6_code (2 : Nat) (Option.some Jvm.ClassFile.FieldType.int)) := ⟨List.mem_append_right _ (List.mem_append_right _ (List.mem_append_left _ (List.mem_of_getElem? (i := 129) rfl))), by decide +kernel⟩
theorem tw_t370 : tw (Jvm.Cond.methodLink "TestEmitter" (102 : Nat) ({ cls := "TestEmitter$Builder", name := "numbers", desc := "()LTestEmitter$Data;" } : Jvm.MethodName)) := ⟨List.mem_append_right _ (List.mem_append_right _ (List.mem_append_left _ (List.mem_of_getElem? (i := 130) rfl))), by decide +kernel⟩
theorem tw_t371 : tw (Jvm.Cond.instanceMethod ({ cls := "TestEmitter$Builder", name := "numbers", desc := "()LTestEmitter$Data;" } : Jvm.MethodName)) := ⟨List.mem_append_right _ (List.mem_append_right _ (List.mem_append_left _ (List.mem_of_getElem? (i := 131) rfl))), by decide +kernel⟩
theorem tw_t372 : tw (Jvm.Cond.selects "TestEmitter$Builder" ({ cls := "TestEmitter$Builder", name := "numbers", desc := "()LTestEmitter$Data;" } : Jvm.MethodName) ({ cls := "TestEmitter$Builder", name := "numbers", desc := "()LTestEmitter$Data;" } : Jvm.MethodName)) := ⟨List.mem_append_right _ (List.mem_append_right _ (List.mem_append_left _ (List.mem_of_getElem? (i := 132) rfl))), by decide +kernel⟩
theorem tw_t373 : tw (Jvm.Cond.code ({ cls := "TestEmitter$Builder", name := "numbers", desc := "()LTestEmitter$Data;" } : Jvm.MethodName) prog_2_method_2_code (1 : Nat) (Option.some (Jvm.ClassFile.FieldType.object "TestEmitter$Data"))) := ⟨List.mem_append_right _ (List.mem_append_right _ (List.mem_append_left _ (List.mem_of_getElem? (i := 133) rfl))), by decide +kernel⟩
theorem tw_t374 : tw (Jvm.Cond.methodLink "TestEmitter" (106 : Nat) ({ cls := "TestEmitter$Data", name := "add", desc := "(I)Z" } : Jvm.MethodName)) := ⟨List.mem_append_right _ (List.mem_append_right _ (List.mem_append_left _ (List.mem_of_getElem? (i := 134) rfl))), by decide +kernel⟩
theorem tw_t375 : tw (Jvm.Cond.instanceMethod ({ cls := "TestEmitter$Data", name := "add", desc := "(I)Z" } : Jvm.MethodName)) := ⟨List.mem_append_right _ (List.mem_append_right _ (List.mem_append_left _ (List.mem_of_getElem? (i := 135) rfl))), by decide +kernel⟩
theorem tw_t376 : tw (Jvm.Cond.selects "TestEmitter$Data" ({ cls := "TestEmitter$Data", name := "add", desc := "(I)Z" } : Jvm.MethodName) ({ cls := "TestEmitter$Data", name := "add", desc := "(I)Z" } : Jvm.MethodName)) := ⟨List.mem_append_right _ (List.mem_append_right _ (List.mem_append_left _ (List.mem_of_getElem? (i := 136) rfl))), by decide +kernel⟩
theorem tw_t377 : tw (Jvm.Cond.code ({ cls := "TestEmitter$Data", name := "add", desc := "(I)Z" } : Jvm.MethodName) prog_4_method_2_code (2 : Nat) (Option.some Jvm.ClassFile.FieldType.boolean)) := ⟨List.mem_append_right _ (List.mem_append_right _ (List.mem_append_left _ (List.mem_of_getElem? (i := 137) rfl))), by decide +kernel⟩
theorem tw_t378 : tw (Jvm.Cond.methodLink "TestEmitter" (112 : Nat) ({ cls := "TestEmitter$Data", name := "size", desc := "()I" } : Jvm.MethodName)) := ⟨List.mem_append_right _ (List.mem_append_right _ (List.mem_append_left _ (List.mem_of_getElem? (i := 138) rfl))), by decide +kernel⟩
theorem tw_t379 : tw (Jvm.Cond.instanceMethod ({ cls := "TestEmitter$Data", name := "size", desc := "()I" } : Jvm.MethodName)) := ⟨List.mem_append_right _ (List.mem_append_right _ (List.mem_append_left _ (List.mem_of_getElem? (i := 139) rfl))), by decide +kernel⟩
theorem tw_t380 : tw (Jvm.Cond.selects "TestEmitter$Data" ({ cls := "TestEmitter$Data", name := "size", desc := "()I" } : Jvm.MethodName) ({ cls := "TestEmitter$Data", name := "size", desc := "()I" } : Jvm.MethodName)) := ⟨List.mem_append_right _ (List.mem_append_right _ (List.mem_append_left _ (List.mem_of_getElem? (i := 140) rfl))), by decide +kernel⟩
theorem tw_t381 : tw (Jvm.Cond.code ({ cls := "TestEmitter$Data", name := "size", desc := "()I" } : Jvm.MethodName) prog_4_method_3_code (1 : Nat) (Option.some Jvm.ClassFile.FieldType.int)) := ⟨List.mem_append_right _ (List.mem_append_right _ (List.mem_append_left _ (List.mem_of_getElem? (i := 141) rfl))), by decide +kernel⟩
theorem tw_t382 : tw (Jvm.Cond.methodLink "TestEmitterLaw" (43 : Nat) ({ cls := "TestEmitter", name := "clear", desc := "()I" } : Jvm.MethodName)) := ⟨List.mem_append_right _ (List.mem_append_right _ (List.mem_append_left _ (List.mem_of_getElem? (i := 142) rfl))), by decide +kernel⟩
theorem tw_t383 : tw (Jvm.Cond.instanceMethod ({ cls := "TestEmitter", name := "clear", desc := "()I" } : Jvm.MethodName)) := ⟨List.mem_append_right _ (List.mem_append_right _ (List.mem_append_left _ (List.mem_of_getElem? (i := 143) rfl))), by decide +kernel⟩
theorem tw_t384 : tw (Jvm.Cond.selects "TestEmitter" ({ cls := "TestEmitter", name := "clear", desc := "()I" } : Jvm.MethodName) ({ cls := "TestEmitter", name := "clear", desc := "()I" } : Jvm.MethodName)) := ⟨List.mem_append_right _ (List.mem_append_right _ (List.mem_append_left _ (List.mem_of_getElem? (i := 144) rfl))), by decide +kernel⟩
theorem tw_t385 : tw (Jvm.Cond.code ({ cls := "TestEmitter", name := "clear", desc := "()I" } : Jvm.MethodName) prog_1_method_7_code (2 : Nat) (Option.some Jvm.ClassFile.FieldType.int)) := ⟨List.mem_append_right _ (List.mem_append_right _ (List.mem_append_left _ (List.mem_of_getElem? (i := 145) rfl))), by decide +kernel⟩
theorem tw_t386 : tw (Jvm.Cond.methodLink "TestEmitter" (113 : Nat) ({ cls := "TestEmitter$Data", name := "empty", desc := "()V" } : Jvm.MethodName)) := ⟨List.mem_append_right _ (List.mem_append_right _ (List.mem_append_left _ (List.mem_of_getElem? (i := 146) rfl))), by decide +kernel⟩
theorem tw_t387 : tw (Jvm.Cond.instanceMethod ({ cls := "TestEmitter$Data", name := "empty", desc := "()V" } : Jvm.MethodName)) := ⟨List.mem_append_right _ (List.mem_append_right _ (List.mem_append_left _ (List.mem_of_getElem? (i := 147) rfl))), by decide +kernel⟩
theorem tw_t388 : tw (Jvm.Cond.selects "TestEmitter$Data" ({ cls := "TestEmitter$Data", name := "empty", desc := "()V" } : Jvm.MethodName) ({ cls := "TestEmitter$Data", name := "empty", desc := "()V" } : Jvm.MethodName)) := ⟨List.mem_append_right _ (List.mem_append_right _ (List.mem_append_left _ (List.mem_of_getElem? (i := 148) rfl))), by decide +kernel⟩
theorem tw_t389 : tw (Jvm.Cond.code ({ cls := "TestEmitter$Data", name := "empty", desc := "()V" } : Jvm.MethodName) prog_4_method_5_code (1 : Nat) (Option.none : Option Jvm.ClassFile.FieldType)) := ⟨List.mem_append_right _ (List.mem_append_right _ (List.mem_append_left _ (List.mem_of_getElem? (i := 149) rfl))), by decide +kernel⟩
theorem tw_t390 : tw (Jvm.Cond.methodLink "TestEmitterLaw" (47 : Nat) ({ cls := "TestEmitter", name := "returned", desc := "()I" } : Jvm.MethodName)) := ⟨List.mem_append_right _ (List.mem_append_right _ (List.mem_append_left _ (List.mem_of_getElem? (i := 150) rfl))), by decide +kernel⟩
theorem tw_t391 : tw (Jvm.Cond.instanceMethod ({ cls := "TestEmitter", name := "returned", desc := "()I" } : Jvm.MethodName)) := ⟨List.mem_append_right _ (List.mem_append_right _ (List.mem_append_left _ (List.mem_of_getElem? (i := 151) rfl))), by decide +kernel⟩
theorem tw_t392 : tw (Jvm.Cond.selects "TestEmitter" ({ cls := "TestEmitter", name := "returned", desc := "()I" } : Jvm.MethodName) ({ cls := "TestEmitter", name := "returned", desc := "()I" } : Jvm.MethodName)) := ⟨List.mem_append_right _ (List.mem_append_right _ (List.mem_append_left _ (List.mem_of_getElem? (i := 152) rfl))), by decide +kernel⟩
theorem tw_t393 : tw (Jvm.Cond.code ({ cls := "TestEmitter", name := "returned", desc := "()I" } : Jvm.MethodName) prog_1_method_8_code (1 : Nat) (Option.some Jvm.ClassFile.FieldType.int)) := ⟨List.mem_append_right _ (List.mem_append_right _ (List.mem_append_left _ (List.mem_of_getElem? (i := 153) rfl))), by decide +kernel⟩
theorem tw_t394 : tw (Jvm.Cond.methodLink "TestEmitter" (114 : Nat) ({ cls := "TestEmitter$Suite", name := "isFull", desc := "()Z" } : Jvm.MethodName)) := ⟨List.mem_append_right _ (List.mem_append_right _ (List.mem_append_left _ (List.mem_of_getElem? (i := 154) rfl))), by decide +kernel⟩
theorem tw_t395 : tw (Jvm.Cond.instanceMethod ({ cls := "TestEmitter$Suite", name := "isFull", desc := "()Z" } : Jvm.MethodName)) := ⟨List.mem_append_right _ (List.mem_append_right _ (List.mem_append_left _ (List.mem_of_getElem? (i := 155) rfl))), by decide +kernel⟩
theorem tw_t396 : tw (Jvm.Cond.selects "TestEmitter$Suite" ({ cls := "TestEmitter$Suite", name := "isFull", desc := "()Z" } : Jvm.MethodName) ({ cls := "TestEmitter$Suite", name := "isFull", desc := "()Z" } : Jvm.MethodName)) := ⟨List.mem_append_right _ (List.mem_append_right _ (List.mem_append_left _ (List.mem_of_getElem? (i := 156) rfl))), by decide +kernel⟩
theorem tw_t397 : tw (Jvm.Cond.code ({ cls := "TestEmitter$Suite", name := "isFull", desc := "()Z" } : Jvm.MethodName) prog_5_method_4_code (1 : Nat) (Option.some Jvm.ClassFile.FieldType.boolean)) := ⟨List.mem_append_right _ (List.mem_append_right _ (List.mem_append_left _ (List.mem_of_getElem? (i := 157) rfl))), by decide +kernel⟩
theorem tw_t398 : tw (Jvm.Cond.methodLink "TestEmitter" (118 : Nat) ({ cls := "TestEmitter$Builder", name := "buildCall", desc := "(LTestEmitter$TypeRow;LTestEmitter$Chars;)V" } : Jvm.MethodName)) := ⟨List.mem_append_right _ (List.mem_append_right _ (List.mem_append_left _ (List.mem_of_getElem? (i := 158) rfl))), by decide +kernel⟩
theorem tw_t399 : tw (Jvm.Cond.instanceMethod ({ cls := "TestEmitter$Builder", name := "buildCall", desc := "(LTestEmitter$TypeRow;LTestEmitter$Chars;)V" } : Jvm.MethodName)) := ⟨List.mem_append_right _ (List.mem_append_right _ (List.mem_append_left _ (List.mem_of_getElem? (i := 159) rfl))), by decide +kernel⟩
theorem tw_t400 : tw (Jvm.Cond.selects "TestEmitter$Builder" ({ cls := "TestEmitter$Builder", name := "buildCall", desc := "(LTestEmitter$TypeRow;LTestEmitter$Chars;)V" } : Jvm.MethodName) ({ cls := "TestEmitter$Builder", name := "buildCall", desc := "(LTestEmitter$TypeRow;LTestEmitter$Chars;)V" } : Jvm.MethodName)) := ⟨List.mem_append_right _ (List.mem_append_right _ (List.mem_append_left _ (List.mem_of_getElem? (i := 160) rfl))), by decide +kernel⟩
theorem tw_t401 : tw (Jvm.Cond.code ({ cls := "TestEmitter$Builder", name := "buildCall", desc := "(LTestEmitter$TypeRow;LTestEmitter$Chars;)V" } : Jvm.MethodName) prog_2_method_4_code (3 : Nat) (Option.none : Option Jvm.ClassFile.FieldType)) := ⟨List.mem_append_right _ (List.mem_append_right _ (List.mem_append_left _ (List.mem_of_getElem? (i := 161) rfl))), by decide +kernel⟩
theorem tw_t402 : tw (Jvm.Cond.methodLink "TestEmitter$Builder" (25 : Nat) ({ cls := "TestEmitter$Data", name := "rewind", desc := "()V" } : Jvm.MethodName)) := ⟨List.mem_append_right _ (List.mem_append_right _ (List.mem_append_left _ (List.mem_of_getElem? (i := 162) rfl))), by decide +kernel⟩
theorem tw_t403 : tw (Jvm.Cond.instanceMethod ({ cls := "TestEmitter$Data", name := "rewind", desc := "()V" } : Jvm.MethodName)) := ⟨List.mem_append_right _ (List.mem_append_right _ (List.mem_append_left _ (List.mem_of_getElem? (i := 163) rfl))), by decide +kernel⟩
theorem tw_t404 : tw (Jvm.Cond.selects "TestEmitter$Data" ({ cls := "TestEmitter$Data", name := "rewind", desc := "()V" } : Jvm.MethodName) ({ cls := "TestEmitter$Data", name := "rewind", desc := "()V" } : Jvm.MethodName)) := ⟨List.mem_append_right _ (List.mem_append_right _ (List.mem_append_left _ (List.mem_of_getElem? (i := 164) rfl))), by decide +kernel⟩
theorem tw_t405 : tw (Jvm.Cond.code ({ cls := "TestEmitter$Data", name := "rewind", desc := "()V" } : Jvm.MethodName) prog_4_method_6_code (1 : Nat) (Option.none : Option Jvm.ClassFile.FieldType)) := ⟨List.mem_append_right _ (List.mem_append_right _ (List.mem_append_left _ (List.mem_of_getElem? (i := 165) rfl))), by decide +kernel⟩
theorem tw_t406 : tw (Jvm.Cond.methodLink "TestEmitter$Builder" (28 : Nat) ({ cls := "TestEmitter$Chars", name := "empty", desc := "()V" } : Jvm.MethodName)) := ⟨List.mem_append_right _ (List.mem_append_right _ (List.mem_append_left _ (List.mem_of_getElem? (i := 166) rfl))), by decide +kernel⟩
theorem tw_t408 : tw (Jvm.Cond.methodLink "TestEmitter$Builder" (35 : Nat) ({ cls := "TestEmitter$Chars", name := "put", desc := "(Ljava/lang/String;)V" } : Jvm.MethodName)) := ⟨List.mem_append_right _ (List.mem_append_right _ (List.mem_append_left _ (List.mem_of_getElem? (i := 168) rfl))), by decide +kernel⟩
theorem tw_t409 : tw (Jvm.Cond.instanceMethod ({ cls := "TestEmitter$Chars", name := "put", desc := "(Ljava/lang/String;)V" } : Jvm.MethodName)) := ⟨List.mem_append_right _ (List.mem_append_right _ (List.mem_append_left _ (List.mem_of_getElem? (i := 169) rfl))), by decide +kernel⟩
theorem tw_t410 : tw (Jvm.Cond.selects "TestEmitter$Chars" ({ cls := "TestEmitter$Chars", name := "put", desc := "(Ljava/lang/String;)V" } : Jvm.MethodName) ({ cls := "TestEmitter$Chars", name := "put", desc := "(Ljava/lang/String;)V" } : Jvm.MethodName)) := ⟨List.mem_append_right _ (List.mem_append_right _ (List.mem_append_left _ (List.mem_of_getElem? (i := 170) rfl))), by decide +kernel⟩
theorem tw_t411 : tw (Jvm.Cond.code ({ cls := "TestEmitter$Chars", name := "put", desc := "(Ljava/lang/String;)V" } : Jvm.MethodName) prog_3_method_6_code (3 : Nat) (Option.none : Option Jvm.ClassFile.FieldType)) := ⟨List.mem_append_right _ (List.mem_append_right _ (List.mem_append_left _ (List.mem_of_getElem? (i := 171) rfl))), by decide +kernel⟩
theorem tw_t412 : tw (Jvm.Cond.methodLink "TestEmitter$Chars" (34 : Nat) ({ cls := "TestEmitter$Chars", name := "put", desc := "(I)V" } : Jvm.MethodName)) := ⟨List.mem_append_right _ (List.mem_append_right _ (List.mem_append_left _ (List.mem_of_getElem? (i := 172) rfl))), by decide +kernel⟩
theorem tw_t413 : tw (Jvm.Cond.methodLink "TestEmitter$Builder" (39 : Nat) ({ cls := "TestEmitter$Builder", name := "buildRow", desc := "(LTestEmitter$TypeRow;ILTestEmitter$Chars;)V" } : Jvm.MethodName)) := ⟨List.mem_append_right _ (List.mem_append_right _ (List.mem_append_left _ (List.mem_of_getElem? (i := 173) rfl))), by decide +kernel⟩
theorem tw_t415 : tw (Jvm.Cond.instanceMethod ({ cls := "TestEmitter$Builder", name := "buildRow", desc := "(LTestEmitter$TypeRow;ILTestEmitter$Chars;)V" } : Jvm.MethodName)) := ⟨List.mem_append_right _ (List.mem_append_right _ (List.mem_append_left _ (List.mem_of_getElem? (i := 175) rfl))), by decide +kernel⟩
theorem tw_t416 : tw (Jvm.Cond.code ({ cls := "TestEmitter$Builder", name := "buildRow", desc := "(LTestEmitter$TypeRow;ILTestEmitter$Chars;)V" } : Jvm.MethodName) prog_2_method_6_code (5 : Nat) (Option.none : Option Jvm.ClassFile.FieldType)) := ⟨List.mem_append_right _ (List.mem_append_right _ (List.mem_append_left _ (List.mem_of_getElem? (i := 176) rfl))), by decide +kernel⟩
theorem tw_t417 : tw (Jvm.Cond.methodLink "TestEmitter$Builder" (56 : Nat) ({ cls := "TestEmitter$TypeRow", name := "size", desc := "()I" } : Jvm.MethodName)) := ⟨List.mem_append_right _ (List.mem_append_right _ (List.mem_append_left _ (List.mem_of_getElem? (i := 177) rfl))), by decide +kernel⟩
theorem tw_t418 : tw (Jvm.Cond.methodLink "TestEmitter$Builder" (60 : Nat) ({ cls := "TestEmitter$Builder", name := "putSeparator", desc := "(ILTestEmitter$Chars;)V" } : Jvm.MethodName)) := ⟨List.mem_append_right _ (List.mem_append_right _ (List.mem_append_left _ (List.mem_of_getElem? (i := 178) rfl))), by decide +kernel⟩
theorem tw_t419 : tw (Jvm.Cond.static ({ cls := "TestEmitter$Builder", name := "putSeparator", desc := "(ILTestEmitter$Chars;)V" } : Jvm.MethodName)) := ⟨List.mem_append_right _ (List.mem_append_right _ (List.mem_append_left _ (List.mem_of_getElem? (i := 179) rfl))), by decide +kernel⟩
theorem tw_t420 : tw (Jvm.Cond.code ({ cls := "TestEmitter$Builder", name := "putSeparator", desc := "(ILTestEmitter$Chars;)V" } : Jvm.MethodName) prog_2_method_15_code (2 : Nat) (Option.none : Option Jvm.ClassFile.FieldType)) := ⟨List.mem_append_right _ (List.mem_append_right _ (List.mem_append_left _ (List.mem_of_getElem? (i := 180) rfl))), by decide +kernel⟩
theorem tw_t422 : tw (Jvm.Cond.methodLink "TestEmitter$Builder" (64 : Nat) ({ cls := "TestEmitter$TypeRow", name := "get", desc := "(I)LTestEmitter$Type;" } : Jvm.MethodName)) := ⟨List.mem_append_right _ (List.mem_append_right _ (List.mem_append_left _ (List.mem_of_getElem? (i := 182) rfl))), by decide +kernel⟩
theorem tw_t423 : tw (Jvm.Cond.instanceMethod ({ cls := "TestEmitter$TypeRow", name := "get", desc := "(I)LTestEmitter$Type;" } : Jvm.MethodName)) := ⟨List.mem_append_right _ (List.mem_append_right _ (List.mem_append_left _ (List.mem_of_getElem? (i := 183) rfl))), by decide +kernel⟩
theorem tw_t424 : tw (Jvm.Cond.selects "TestEmitter$TypeRow" ({ cls := "TestEmitter$TypeRow", name := "get", desc := "(I)LTestEmitter$Type;" } : Jvm.MethodName) ({ cls := "TestEmitter$TypeRow", name := "get", desc := "(I)LTestEmitter$Type;" } : Jvm.MethodName)) := ⟨List.mem_append_right _ (List.mem_append_right _ (List.mem_append_left _ (List.mem_of_getElem? (i := 184) rfl))), by decide +kernel⟩
theorem tw_t425 : tw (Jvm.Cond.code ({ cls := "TestEmitter$TypeRow", name := "get", desc := "(I)LTestEmitter$Type;" } : Jvm.MethodName) prog_8_method_4_code (2 : Nat) (Option.some (Jvm.ClassFile.FieldType.object "TestEmitter$Type"))) := ⟨List.mem_append_right _ (List.mem_append_right _ (List.mem_append_left _ (List.mem_of_getElem? (i := 185) rfl))), by decide +kernel⟩
theorem tw_t426 : tw (Jvm.Cond.methodLink "TestEmitter$Builder" (52 : Nat) ({ cls := "TestEmitter$Builder", name := "build", desc := "(LTestEmitter$Type;IILTestEmitter$Chars;)V" } : Jvm.MethodName)) := ⟨List.mem_append_right _ (List.mem_append_right _ (List.mem_append_left _ (List.mem_of_getElem? (i := 186) rfl))), by decide +kernel⟩
theorem tw_t428 : tw (Jvm.Cond.instanceMethod ({ cls := "TestEmitter$Builder", name := "build", desc := "(LTestEmitter$Type;IILTestEmitter$Chars;)V" } : Jvm.MethodName)) := ⟨List.mem_append_right _ (List.mem_append_right _ (List.mem_append_left _ (List.mem_of_getElem? (i := 188) rfl))), by decide +kernel⟩
theorem tw_t429 : tw (Jvm.Cond.code ({ cls := "TestEmitter$Builder", name := "build", desc := "(LTestEmitter$Type;IILTestEmitter$Chars;)V" } : Jvm.MethodName) prog_2_method_7_code (5 : Nat) (Option.none : Option Jvm.ClassFile.FieldType)) := ⟨List.mem_append_right _ (List.mem_append_right _ (List.mem_append_left _ (List.mem_of_getElem? (i := 189) rfl))), by decide +kernel⟩
theorem tw_t430 : tw (Jvm.Cond.methodLink "TestEmitter$Builder" (68 : Nat) ({ cls := "TestEmitter$Chars", name := "length", desc := "()I" } : Jvm.MethodName)) := ⟨List.mem_append_right _ (List.mem_append_right _ (List.mem_append_left _ (List.mem_of_getElem? (i := 190) rfl))), by decide +kernel⟩
theorem tw_t431 : tw (Jvm.Cond.methodLink "TestEmitter$Builder" (71 : Nat) ({ cls := "TestEmitter$Data", name := "isUsedUp", desc := "()Z" } : Jvm.MethodName)) := ⟨List.mem_append_right _ (List.mem_append_right _ (List.mem_append_left _ (List.mem_of_getElem? (i := 191) rfl))), by decide +kernel⟩
theorem tw_t432 : tw (Jvm.Cond.instanceMethod ({ cls := "TestEmitter$Data", name := "isUsedUp", desc := "()Z" } : Jvm.MethodName)) := ⟨List.mem_append_right _ (List.mem_append_right _ (List.mem_append_left _ (List.mem_of_getElem? (i := 192) rfl))), by decide +kernel⟩
theorem tw_t433 : tw (Jvm.Cond.selects "TestEmitter$Data" ({ cls := "TestEmitter$Data", name := "isUsedUp", desc := "()Z" } : Jvm.MethodName) ({ cls := "TestEmitter$Data", name := "isUsedUp", desc := "()Z" } : Jvm.MethodName)) := ⟨List.mem_append_right _ (List.mem_append_right _ (List.mem_append_left _ (List.mem_of_getElem? (i := 193) rfl))), by decide +kernel⟩
theorem tw_t434 : tw (Jvm.Cond.code ({ cls := "TestEmitter$Data", name := "isUsedUp", desc := "()Z" } : Jvm.MethodName) prog_4_method_7_code (1 : Nat) (Option.some Jvm.ClassFile.FieldType.boolean)) := ⟨List.mem_append_right _ (List.mem_append_right _ (List.mem_append_left _ (List.mem_of_getElem? (i := 194) rfl))), by decide +kernel⟩
theorem tw_t435 : tw (Jvm.Cond.methodLink "TestEmitter$Builder" (75 : Nat) ({ cls := "TestEmitter$Type", name := "brackets", desc := "()I" } : Jvm.MethodName)) := ⟨List.mem_append_right _ (List.mem_append_right _ (List.mem_append_left _ (List.mem_of_getElem? (i := 195) rfl))), by decide +kernel⟩
theorem tw_t436 : tw (Jvm.Cond.instanceMethod ({ cls := "TestEmitter$Type", name := "brackets", desc := "()I" } : Jvm.MethodName)) := ⟨List.mem_append_right _ (List.mem_append_right _ (List.mem_append_left _ (List.mem_of_getElem? (i := 196) rfl))), by decide +kernel⟩
theorem tw_t437 : tw (Jvm.Cond.selects "TestEmitter$Type" ({ cls := "TestEmitter$Type", name := "brackets", desc := "()I" } : Jvm.MethodName) ({ cls := "TestEmitter$Type", name := "brackets", desc := "()I" } : Jvm.MethodName)) := ⟨List.mem_append_right _ (List.mem_append_right _ (List.mem_append_left _ (List.mem_of_getElem? (i := 197) rfl))), by decide +kernel⟩
theorem tw_t438 : tw (Jvm.Cond.code ({ cls := "TestEmitter$Type", name := "brackets", desc := "()I" } : Jvm.MethodName) prog_7_method_5_code (1 : Nat) (Option.some Jvm.ClassFile.FieldType.int)) := ⟨List.mem_append_right _ (List.mem_append_right _ (List.mem_append_left _ (List.mem_of_getElem? (i := 198) rfl))), by decide +kernel⟩
theorem tw_t439 : tw (Jvm.Cond.methodLink "TestEmitter$Builder" (78 : Nat) ({ cls := "TestEmitter$Builder", name := "buildArray", desc := "(LTestEmitter$Type;IILTestEmitter$Chars;)V" } : Jvm.MethodName)) := ⟨List.mem_append_right _ (List.mem_append_right _ (List.mem_append_left _ (List.mem_of_getElem? (i := 199) rfl))), by decide +kernel⟩
theorem tw_t441 : tw (Jvm.Cond.instanceMethod ({ cls := "TestEmitter$Builder", name := "buildArray", desc := "(LTestEmitter$Type;IILTestEmitter$Chars;)V" } : Jvm.MethodName)) := ⟨List.mem_append_right _ (List.mem_append_right _ (List.mem_append_left _ (List.mem_of_getElem? (i := 201) rfl))), by decide +kernel⟩
theorem tw_t442 : tw (Jvm.Cond.code ({ cls := "TestEmitter$Builder", name := "buildArray", desc := "(LTestEmitter$Type;IILTestEmitter$Chars;)V" } : Jvm.MethodName) prog_2_method_8_code (7 : Nat) (Option.none : Option Jvm.ClassFile.FieldType)) := ⟨List.mem_append_right _ (List.mem_append_right _ (List.mem_append_left _ (List.mem_of_getElem? (i := 202) rfl))), by decide +kernel⟩
theorem tw_t443 : tw (Jvm.Cond.methodLink "TestEmitter$Builder" (84 : Nat) ({ cls := "TestEmitter$Data", name := "next", desc := "()I" } : Jvm.MethodName)) := ⟨List.mem_append_right _ (List.mem_append_right _ (List.mem_append_left _ (List.mem_of_getElem? (i := 203) rfl))), by decide +kernel⟩
theorem tw_t444 : tw (Jvm.Cond.instanceMethod ({ cls := "TestEmitter$Data", name := "next", desc := "()I" } : Jvm.MethodName)) := ⟨List.mem_append_right _ (List.mem_append_right _ (List.mem_append_left _ (List.mem_of_getElem? (i := 204) rfl))), by decide +kernel⟩
theorem tw_t445 : tw (Jvm.Cond.selects "TestEmitter$Data" ({ cls := "TestEmitter$Data", name := "next", desc := "()I" } : Jvm.MethodName) ({ cls := "TestEmitter$Data", name := "next", desc := "()I" } : Jvm.MethodName)) := ⟨List.mem_append_right _ (List.mem_append_right _ (List.mem_append_left _ (List.mem_of_getElem? (i := 205) rfl))), by decide +kernel⟩
theorem tw_t446 : tw (Jvm.Cond.code ({ cls := "TestEmitter$Data", name := "next", desc := "()I" } : Jvm.MethodName) prog_4_method_8_code (1 : Nat) (Option.some Jvm.ClassFile.FieldType.int)) := ⟨List.mem_append_right _ (List.mem_append_right _ (List.mem_append_left _ (List.mem_of_getElem? (i := 206) rfl))), by decide +kernel⟩
theorem tw_t447 : tw (Jvm.Cond.methodLink "TestEmitter$Data" (22 : Nat) ({ cls := "TestEmitter$Data", name := "isUsedUp", desc := "()Z" } : Jvm.MethodName)) := ⟨List.mem_append_right _ (List.mem_append_right _ (List.mem_append_left _ (List.mem_of_getElem? (i := 207) rfl))), by decide +kernel⟩
theorem tw_t450 : tw (Jvm.Cond.methodLink "TestEmitter$Builder" (128 : Nat) ({ cls := "TestEmitter$Type", name := "putArrayName", desc := "(LTestEmitter$Chars;)V" } : Jvm.MethodName)) := ⟨List.mem_append_right _ (List.mem_append_right _ (List.mem_append_left _ (List.mem_of_getElem? (i := 210) rfl))), by decide +kernel⟩
theorem tw_t451 : tw (Jvm.Cond.instanceMethod ({ cls := "TestEmitter$Type", name := "putArrayName", desc := "(LTestEmitter$Chars;)V" } : Jvm.MethodName)) := ⟨List.mem_append_right _ (List.mem_append_right _ (List.mem_append_left _ (List.mem_of_getElem? (i := 211) rfl))), by decide +kernel⟩
theorem tw_t452 : tw (Jvm.Cond.selects "TestEmitter$Type" ({ cls := "TestEmitter$Type", name := "putArrayName", desc := "(LTestEmitter$Chars;)V" } : Jvm.MethodName) ({ cls := "TestEmitter$Type", name := "putArrayName", desc := "(LTestEmitter$Chars;)V" } : Jvm.MethodName)) := ⟨List.mem_append_right _ (List.mem_append_right _ (List.mem_append_left _ (List.mem_of_getElem? (i := 212) rfl))), by decide +kernel⟩
theorem tw_t453 : tw (Jvm.Cond.code ({ cls := "TestEmitter$Type", name := "putArrayName", desc := "(LTestEmitter$Chars;)V" } : Jvm.MethodName) prog_7_method_9_code (3 : Nat) (Option.none : Option Jvm.ClassFile.FieldType)) := ⟨List.mem_append_right _ (List.mem_append_right _ (List.mem_append_left _ (List.mem_of_getElem? (i := 213) rfl))), by decide +kernel⟩
theorem tw_t454 : tw (Jvm.Cond.methodLink "TestEmitter$Type" (54 : Nat) ({ cls := "TestEmitter$Type", name := "elementName", desc := "()Ljava/lang/String;" } : Jvm.MethodName)) := ⟨List.mem_append_right _ (List.mem_append_right _ (List.mem_append_left _ (List.mem_of_getElem? (i := 214) rfl))), by decide +kernel⟩
theorem tw_t456 : tw (Jvm.Cond.instanceMethod ({ cls := "TestEmitter$Type", name := "elementName", desc := "()Ljava/lang/String;" } : Jvm.MethodName)) := ⟨List.mem_append_right _ (List.mem_append_right _ (List.mem_append_left _ (List.mem_of_getElem? (i := 216) rfl))), by decide +kernel⟩
theorem tw_t457 : tw (Jvm.Cond.code ({ cls := "TestEmitter$Type", name := "elementName", desc := "()Ljava/lang/String;" } : Jvm.MethodName) prog_7_method_10_code (1 : Nat) (Option.some (Jvm.ClassFile.FieldType.object "java/lang/String"))) := ⟨List.mem_append_right _ (List.mem_append_right _ (List.mem_append_left _ (List.mem_of_getElem? (i := 217) rfl))), by decide +kernel⟩
theorem tw_t468 : tw (Jvm.Cond.methodLink "TestEmitter$Type" (58 : Nat) ({ cls := "TestEmitter$Chars", name := "put", desc := "(Ljava/lang/String;)V" } : Jvm.MethodName)) := ⟨List.mem_append_right _ (List.mem_append_right _ (List.mem_append_left _ (List.mem_of_getElem? (i := 228) rfl))), by decide +kernel⟩
theorem tw_t469 : tw (Jvm.Cond.methodLink "TestEmitter$Type" (62 : Nat) ({ cls := "TestEmitter$Chars", name := "put", desc := "(I)V" } : Jvm.MethodName)) := ⟨List.mem_append_right _ (List.mem_append_right _ (List.mem_append_left _ (List.mem_of_getElem? (i := 229) rfl))), by decide +kernel⟩
theorem tw_t471 : tw (Jvm.Cond.methodLink "TestEmitter$Builder" (43 : Nat) ({ cls := "TestEmitter$Chars", name := "put", desc := "(I)V" } : Jvm.MethodName)) := ⟨List.mem_append_right _ (List.mem_append_right _ (List.mem_append_left _ (List.mem_of_getElem? (i := 231) rfl))), by decide +kernel⟩
theorem tw_t472 : tw (Jvm.Cond.methodLink "TestEmitter$Builder" (81 : Nat) ({ cls := "TestEmitter$Type", name := "letter", desc := "()I" } : Jvm.MethodName)) := ⟨List.mem_append_right _ (List.mem_append_right _ (List.mem_append_left _ (List.mem_of_getElem? (i := 232) rfl))), by decide +kernel⟩
theorem tw_t473 : tw (Jvm.Cond.instanceMethod ({ cls := "TestEmitter$Type", name := "letter", desc := "()I" } : Jvm.MethodName)) := ⟨List.mem_append_right _ (List.mem_append_right _ (List.mem_append_left _ (List.mem_of_getElem? (i := 233) rfl))), by decide +kernel⟩
theorem tw_t474 : tw (Jvm.Cond.selects "TestEmitter$Type" ({ cls := "TestEmitter$Type", name := "letter", desc := "()I" } : Jvm.MethodName) ({ cls := "TestEmitter$Type", name := "letter", desc := "()I" } : Jvm.MethodName)) := ⟨List.mem_append_right _ (List.mem_append_right _ (List.mem_append_left _ (List.mem_of_getElem? (i := 234) rfl))), by decide +kernel⟩
theorem tw_t475 : tw (Jvm.Cond.code ({ cls := "TestEmitter$Type", name := "letter", desc := "()I" } : Jvm.MethodName) prog_7_method_6_code (1 : Nat) (Option.some Jvm.ClassFile.FieldType.int)) := ⟨List.mem_append_right _ (List.mem_append_right _ (List.mem_append_left _ (List.mem_of_getElem? (i := 235) rfl))), by decide +kernel⟩
theorem tw_t479 : tw (Jvm.Cond.methodLink "TestEmitter$Builder" (93 : Nat) ({ cls := "TestEmitter$Chars", name := "putNumber", desc := "(J)V" } : Jvm.MethodName)) := ⟨List.mem_append_right _ (List.mem_append_right _ (List.mem_append_left _ (List.mem_of_getElem? (i := 239) rfl))), by decide +kernel⟩
theorem tw_t480 : tw (Jvm.Cond.instanceMethod ({ cls := "TestEmitter$Chars", name := "putNumber", desc := "(J)V" } : Jvm.MethodName)) := ⟨List.mem_append_right _ (List.mem_append_right _ (List.mem_append_right _ (List.mem_append_left _ (List.mem_of_getElem? (i := 0) rfl)))), by decide +kernel⟩
theorem tw_t481 : tw (Jvm.Cond.selects "TestEmitter$Chars" ({ cls := "TestEmitter$Chars", name := "putNumber", desc := "(J)V" } : Jvm.MethodName) ({ cls := "TestEmitter$Chars", name := "putNumber", desc := "(J)V" } : Jvm.MethodName)) := ⟨List.mem_append_right _ (List.mem_append_right _ (List.mem_append_right _ (List.mem_append_left _ (List.mem_of_getElem? (i := 1) rfl)))), by decide +kernel⟩
theorem tw_t482 : tw (Jvm.Cond.code ({ cls := "TestEmitter$Chars", name := "putNumber", desc := "(J)V" } : Jvm.MethodName) prog_3_method_10_code (6 : Nat) (Option.none : Option Jvm.ClassFile.FieldType)) := ⟨List.mem_append_right _ (List.mem_append_right _ (List.mem_append_right _ (List.mem_append_left _ (List.mem_of_getElem? (i := 2) rfl)))), by decide +kernel⟩
theorem tw_t483 : tw (Jvm.Cond.constantLong "TestEmitter$Chars" (45 : Nat) (9 : Int64)) := ⟨List.mem_append_right _ (List.mem_append_right _ (List.mem_append_right _ (List.mem_append_left _ (List.mem_of_getElem? (i := 3) rfl)))), by decide +kernel⟩
theorem tw_t484 : tw (Jvm.Cond.constantLong "TestEmitter$Chars" (47 : Nat) (-9 : Int64)) := ⟨List.mem_append_right _ (List.mem_append_right _ (List.mem_append_right _ (List.mem_append_left _ (List.mem_of_getElem? (i := 4) rfl)))), by decide +kernel⟩
theorem tw_t485 : tw (Jvm.Cond.constantLong "TestEmitter$Chars" (49 : Nat) (10 : Int64)) := ⟨List.mem_append_right _ (List.mem_append_right _ (List.mem_append_right _ (List.mem_append_left _ (List.mem_of_getElem? (i := 5) rfl)))), by decide +kernel⟩
theorem tw_t486 : tw (Jvm.Cond.methodLink "TestEmitter$Chars" (51 : Nat) ({ cls := "java/lang/Math", name := "abs", desc := "(J)J" } : Jvm.MethodName)) := ⟨List.mem_append_right _ (List.mem_append_right _ (List.mem_append_right _ (List.mem_append_left _ (List.mem_of_getElem? (i := 6) rfl)))), by decide +kernel⟩
theorem tw_t487 : tw (Jvm.Cond.static ({ cls := "java/lang/Math", name := "abs", desc := "(J)J" } : Jvm.MethodName)) := ⟨List.mem_append_right _ (List.mem_append_right _ (List.mem_append_right _ (List.mem_append_left _ (List.mem_of_getElem? (i := 7) rfl)))), by decide +kernel⟩
theorem tw_t488 : tw (Jvm.Cond.code ({ cls := "java/lang/Math", name := "abs", desc := "(J)J" } : Jvm.MethodName) prog_12_method_61_code (2 : Nat) (Option.some Jvm.ClassFile.FieldType.long)) := ⟨List.mem_append_right _ (List.mem_append_right _ (List.mem_append_right _ (List.mem_append_left _ (List.mem_of_getElem? (i := 8) rfl)))), by decide +kernel⟩
theorem tw_t490 : tw (Jvm.Cond.methodLink "TestEmitter$Builder" (99 : Nat) ({ cls := "TestEmitter$Builder", name := "putCharacter", desc := "(ICLTestEmitter$Chars;)V" } : Jvm.MethodName)) := ⟨List.mem_append_right _ (List.mem_append_right _ (List.mem_append_right _ (List.mem_append_left _ (List.mem_of_getElem? (i := 10) rfl)))), by decide +kernel⟩
theorem tw_t491 : tw (Jvm.Cond.static ({ cls := "TestEmitter$Builder", name := "putCharacter", desc := "(ICLTestEmitter$Chars;)V" } : Jvm.MethodName)) := ⟨List.mem_append_right _ (List.mem_append_right _ (List.mem_append_right _ (List.mem_append_left _ (List.mem_of_getElem? (i := 11) rfl)))), by decide +kernel⟩
theorem tw_t492 : tw (Jvm.Cond.code ({ cls := "TestEmitter$Builder", name := "putCharacter", desc := "(ICLTestEmitter$Chars;)V" } : Jvm.MethodName) prog_2_method_14_code (5 : Nat) (Option.none : Option Jvm.ClassFile.FieldType)) := ⟨List.mem_append_right _ (List.mem_append_right _ (List.mem_append_right _ (List.mem_append_left _ (List.mem_of_getElem? (i := 12) rfl)))), by decide +kernel⟩
theorem tw_t493 : tw (Jvm.Cond.constant "TestEmitter$Builder" (154 : Nat) (65535 : Int32)) := ⟨List.mem_append_right _ (List.mem_append_right _ (List.mem_append_right _ (List.mem_append_left _ (List.mem_of_getElem? (i := 13) rfl)))), by decide +kernel⟩
theorem tw_t499 : tw (Jvm.Cond.methodLink "TestEmitter$Builder" (165 : Nat) ({ cls := "java/lang/String", name := "charAt", desc := "(I)C" } : Jvm.MethodName)) := ⟨List.mem_append_right _ (List.mem_append_right _ (List.mem_append_right _ (List.mem_append_left _ (List.mem_of_getElem? (i := 19) rfl)))), by decide +kernel⟩
theorem tw_t500 : tw (Jvm.Cond.methodLink "TestEmitter$Builder" (103 : Nat) ({ cls := "TestEmitter$Builder", name := "putInt", desc := "(ILTestEmitter$Chars;)V" } : Jvm.MethodName)) := ⟨List.mem_append_right _ (List.mem_append_right _ (List.mem_append_right _ (List.mem_append_left _ (List.mem_of_getElem? (i := 20) rfl)))), by decide +kernel⟩
theorem tw_t501 : tw (Jvm.Cond.static ({ cls := "TestEmitter$Builder", name := "putInt", desc := "(ILTestEmitter$Chars;)V" } : Jvm.MethodName)) := ⟨List.mem_append_right _ (List.mem_append_right _ (List.mem_append_right _ (List.mem_append_left _ (List.mem_of_getElem? (i := 21) rfl)))), by decide +kernel⟩
theorem tw_t502 : tw (Jvm.Cond.code ({ cls := "TestEmitter$Builder", name := "putInt", desc := "(ILTestEmitter$Chars;)V" } : Jvm.MethodName) prog_2_method_12_code (2 : Nat) (Option.none : Option Jvm.ClassFile.FieldType)) := ⟨List.mem_append_right _ (List.mem_append_right _ (List.mem_append_right _ (List.mem_append_left _ (List.mem_of_getElem? (i := 22) rfl)))), by decide +kernel⟩
theorem tw_t503 : tw (Jvm.Cond.constant "TestEmitter$Builder" (143 : Nat) (-2147483648 : Int32)) := ⟨List.mem_append_right _ (List.mem_append_right _ (List.mem_append_right _ (List.mem_append_left _ (List.mem_of_getElem? (i := 23) rfl)))), by decide +kernel⟩
theorem tw_t505 : tw (Jvm.Cond.methodLink "TestEmitter$Builder" (106 : Nat) ({ cls := "TestEmitter$Builder", name := "buildLong", desc := "(LTestEmitter$Chars;)V" } : Jvm.MethodName)) := ⟨List.mem_append_right _ (List.mem_append_right _ (List.mem_append_right _ (List.mem_append_left _ (List.mem_of_getElem? (i := 25) rfl)))), by decide +kernel⟩
theorem tw_t507 : tw (Jvm.Cond.instanceMethod ({ cls := "TestEmitter$Builder", name := "buildLong", desc := "(LTestEmitter$Chars;)V" } : Jvm.MethodName)) := ⟨List.mem_append_right _ (List.mem_append_right _ (List.mem_append_right _ (List.mem_append_left _ (List.mem_of_getElem? (i := 27) rfl)))), by decide +kernel⟩
theorem tw_t508 : tw (Jvm.Cond.code ({ cls := "TestEmitter$Builder", name := "buildLong", desc := "(LTestEmitter$Chars;)V" } : Jvm.MethodName) prog_2_method_11_code (8 : Nat) (Option.none : Option Jvm.ClassFile.FieldType)) := ⟨List.mem_append_right _ (List.mem_append_right _ (List.mem_append_right _ (List.mem_append_left _ (List.mem_of_getElem? (i := 28) rfl)))), by decide +kernel⟩
theorem tw_t509 : tw (Jvm.Cond.constantLong "TestEmitter$Builder" (133 : Nat) (4294967295 : Int64)) := ⟨List.mem_append_right _ (List.mem_append_right _ (List.mem_append_right _ (List.mem_append_left _ (List.mem_of_getElem? (i := 29) rfl)))), by decide +kernel⟩
theorem tw_t510 : tw (Jvm.Cond.constantLong "TestEmitter$Builder" (137 : Nat) (-9223372036854775808 : Int64)) := ⟨List.mem_append_right _ (List.mem_append_right _ (List.mem_append_right _ (List.mem_append_left _ (List.mem_of_getElem? (i := 30) rfl)))), by decide +kernel⟩
theorem tw_t512 : tw (Jvm.Cond.methodLink "TestEmitter$Builder" (110 : Nat) ({ cls := "TestEmitter$Builder", name := "putEighths", desc := "(JLTestEmitter$Chars;)V" } : Jvm.MethodName)) := ⟨List.mem_append_right _ (List.mem_append_right _ (List.mem_append_right _ (List.mem_append_left _ (List.mem_of_getElem? (i := 32) rfl)))), by decide +kernel⟩
theorem tw_t513 : tw (Jvm.Cond.static ({ cls := "TestEmitter$Builder", name := "putEighths", desc := "(JLTestEmitter$Chars;)V" } : Jvm.MethodName)) := ⟨List.mem_append_right _ (List.mem_append_right _ (List.mem_append_right _ (List.mem_append_left _ (List.mem_of_getElem? (i := 33) rfl)))), by decide +kernel⟩
theorem tw_t514 : tw (Jvm.Cond.code ({ cls := "TestEmitter$Builder", name := "putEighths", desc := "(JLTestEmitter$Chars;)V" } : Jvm.MethodName) prog_2_method_13_code (6 : Nat) (Option.none : Option Jvm.ClassFile.FieldType)) := ⟨List.mem_append_right _ (List.mem_append_right _ (List.mem_append_right _ (List.mem_append_left _ (List.mem_of_getElem? (i := 34) rfl)))), by decide +kernel⟩
theorem tw_t515 : tw (Jvm.Cond.methodLink "TestEmitter$Builder" (146 : Nat) ({ cls := "java/lang/Math", name := "abs", desc := "(J)J" } : Jvm.MethodName)) := ⟨List.mem_append_right _ (List.mem_append_right _ (List.mem_append_right _ (List.mem_append_left _ (List.mem_of_getElem? (i := 35) rfl)))), by decide +kernel⟩
theorem tw_t516 : tw (Jvm.Cond.constantLong "TestEmitter$Builder" (152 : Nat) (8 : Int64)) := ⟨List.mem_append_right _ (List.mem_append_right _ (List.mem_append_right _ (List.mem_append_left _ (List.mem_of_getElem? (i := 36) rfl)))), by decide +kernel⟩
theorem tw_t517 : tw (Jvm.Cond.methodLink "TestEmitter$Builder" (114 : Nat) ({ cls := "TestEmitter$Builder", name := "buildText", desc := "(LTestEmitter$Chars;)V" } : Jvm.MethodName)) := ⟨List.mem_append_right _ (List.mem_append_right _ (List.mem_append_right _ (List.mem_append_left _ (List.mem_of_getElem? (i := 37) rfl)))), by decide +kernel⟩
theorem tw_t519 : tw (Jvm.Cond.instanceMethod ({ cls := "TestEmitter$Builder", name := "buildText", desc := "(LTestEmitter$Chars;)V" } : Jvm.MethodName)) := ⟨List.mem_append_right _ (List.mem_append_right _ (List.mem_append_right _ (List.mem_append_left _ (List.mem_of_getElem? (i := 39) rfl)))), by decide +kernel⟩
theorem tw_t520 : tw (Jvm.Cond.code ({ cls := "TestEmitter$Builder", name := "buildText", desc := "(LTestEmitter$Chars;)V" } : Jvm.MethodName) prog_2_method_10_code (4 : Nat) (Option.none : Option Jvm.ClassFile.FieldType)) := ⟨List.mem_append_right _ (List.mem_append_right _ (List.mem_append_right _ (List.mem_append_left _ (List.mem_of_getElem? (i := 40) rfl)))), by decide +kernel⟩
theorem tw_t521 : tw (Jvm.Cond.methodLink "TestEmitter$Builder" (117 : Nat) ({ cls := "TestEmitter$Type", name := "classNumber", desc := "()I" } : Jvm.MethodName)) := ⟨List.mem_append_right _ (List.mem_append_right _ (List.mem_append_right _ (List.mem_append_left _ (List.mem_of_getElem? (i := 41) rfl)))), by decide +kernel⟩
theorem tw_t522 : tw (Jvm.Cond.instanceMethod ({ cls := "TestEmitter$Type", name := "classNumber", desc := "()I" } : Jvm.MethodName)) := ⟨List.mem_append_right _ (List.mem_append_right _ (List.mem_append_right _ (List.mem_append_left _ (List.mem_of_getElem? (i := 42) rfl)))), by decide +kernel⟩
theorem tw_t523 : tw (Jvm.Cond.selects "TestEmitter$Type" ({ cls := "TestEmitter$Type", name := "classNumber", desc := "()I" } : Jvm.MethodName) ({ cls := "TestEmitter$Type", name := "classNumber", desc := "()I" } : Jvm.MethodName)) := ⟨List.mem_append_right _ (List.mem_append_right _ (List.mem_append_right _ (List.mem_append_left _ (List.mem_of_getElem? (i := 43) rfl)))), by decide +kernel⟩
theorem tw_t524 : tw (Jvm.Cond.code ({ cls := "TestEmitter$Type", name := "classNumber", desc := "()I" } : Jvm.MethodName) prog_7_method_7_code (1 : Nat) (Option.some Jvm.ClassFile.FieldType.int)) := ⟨List.mem_append_right _ (List.mem_append_right _ (List.mem_append_right _ (List.mem_append_left _ (List.mem_of_getElem? (i := 44) rfl)))), by decide +kernel⟩
theorem tw_t525 : tw (Jvm.Cond.methodLink "TestEmitter$Builder" (120 : Nat) ({ cls := "TestEmitter$Builder", name := "buildObject", desc := "(IILTestEmitter$Chars;)V" } : Jvm.MethodName)) := ⟨List.mem_append_right _ (List.mem_append_right _ (List.mem_append_right _ (List.mem_append_left _ (List.mem_of_getElem? (i := 45) rfl)))), by decide +kernel⟩
theorem tw_t527 : tw (Jvm.Cond.instanceMethod ({ cls := "TestEmitter$Builder", name := "buildObject", desc := "(IILTestEmitter$Chars;)V" } : Jvm.MethodName)) := ⟨List.mem_append_right _ (List.mem_append_right _ (List.mem_append_right _ (List.mem_append_left _ (List.mem_of_getElem? (i := 47) rfl)))), by decide +kernel⟩
theorem tw_t528 : tw (Jvm.Cond.code ({ cls := "TestEmitter$Builder", name := "buildObject", desc := "(IILTestEmitter$Chars;)V" } : Jvm.MethodName) prog_2_method_9_code (5 : Nat) (Option.none : Option Jvm.ClassFile.FieldType)) := ⟨List.mem_append_right _ (List.mem_append_right _ (List.mem_append_right _ (List.mem_append_left _ (List.mem_of_getElem? (i := 48) rfl)))), by decide +kernel⟩
theorem tw_t530 : tw (Jvm.Cond.methodLink "TestEmitter" (122 : Nat) ({ cls := "TestEmitter$Builder", name := "buildOutcome", desc := "(LTestEmitter$Type;LTestEmitter$Chars;)V" } : Jvm.MethodName)) := ⟨List.mem_append_right _ (List.mem_append_right _ (List.mem_append_right _ (List.mem_append_left _ (List.mem_of_getElem? (i := 50) rfl)))), by decide +kernel⟩
theorem tw_t531 : tw (Jvm.Cond.instanceMethod ({ cls := "TestEmitter$Builder", name := "buildOutcome", desc := "(LTestEmitter$Type;LTestEmitter$Chars;)V" } : Jvm.MethodName)) := ⟨List.mem_append_right _ (List.mem_append_right _ (List.mem_append_right _ (List.mem_append_left _ (List.mem_of_getElem? (i := 51) rfl)))), by decide +kernel⟩
theorem tw_t532 : tw (Jvm.Cond.selects "TestEmitter$Builder" ({ cls := "TestEmitter$Builder", name := "buildOutcome", desc := "(LTestEmitter$Type;LTestEmitter$Chars;)V" } : Jvm.MethodName) ({ cls := "TestEmitter$Builder", name := "buildOutcome", desc := "(LTestEmitter$Type;LTestEmitter$Chars;)V" } : Jvm.MethodName)) := ⟨List.mem_append_right _ (List.mem_append_right _ (List.mem_append_right _ (List.mem_append_left _ (List.mem_of_getElem? (i := 52) rfl)))), by decide +kernel⟩
theorem tw_t533 : tw (Jvm.Cond.code ({ cls := "TestEmitter$Builder", name := "buildOutcome", desc := "(LTestEmitter$Type;LTestEmitter$Chars;)V" } : Jvm.MethodName) prog_2_method_5_code (3 : Nat) (Option.none : Option Jvm.ClassFile.FieldType)) := ⟨List.mem_append_right _ (List.mem_append_right _ (List.mem_append_right _ (List.mem_append_left _ (List.mem_of_getElem? (i := 53) rfl)))), by decide +kernel⟩
theorem tw_t534 : tw (Jvm.Cond.methodLink "TestEmitter$Builder" (46 : Nat) ({ cls := "TestEmitter$Type", name := "isSingle", desc := "(I)Z" } : Jvm.MethodName)) := ⟨List.mem_append_right _ (List.mem_append_right _ (List.mem_append_right _ (List.mem_append_left _ (List.mem_of_getElem? (i := 54) rfl)))), by decide +kernel⟩
theorem tw_t535 : tw (Jvm.Cond.instanceMethod ({ cls := "TestEmitter$Type", name := "isSingle", desc := "(I)Z" } : Jvm.MethodName)) := ⟨List.mem_append_right _ (List.mem_append_right _ (List.mem_append_right _ (List.mem_append_left _ (List.mem_of_getElem? (i := 55) rfl)))), by decide +kernel⟩
theorem tw_t536 : tw (Jvm.Cond.selects "TestEmitter$Type" ({ cls := "TestEmitter$Type", name := "isSingle", desc := "(I)Z" } : Jvm.MethodName) ({ cls := "TestEmitter$Type", name := "isSingle", desc := "(I)Z" } : Jvm.MethodName)) := ⟨List.mem_append_right _ (List.mem_append_right _ (List.mem_append_right _ (List.mem_append_left _ (List.mem_of_getElem? (i := 56) rfl)))), by decide +kernel⟩
theorem tw_t537 : tw (Jvm.Cond.code ({ cls := "TestEmitter$Type", name := "isSingle", desc := "(I)Z" } : Jvm.MethodName) prog_7_method_8_code (2 : Nat) (Option.some Jvm.ClassFile.FieldType.boolean)) := ⟨List.mem_append_right _ (List.mem_append_right _ (List.mem_append_right _ (List.mem_append_left _ (List.mem_of_getElem? (i := 57) rfl)))), by decide +kernel⟩
theorem tw_t538 : tw (Jvm.Cond.methodLink "TestEmitter" (126 : Nat) ({ cls := "TestEmitter$Data", name := "used", desc := "()I" } : Jvm.MethodName)) := ⟨List.mem_append_right _ (List.mem_append_right _ (List.mem_append_right _ (List.mem_append_left _ (List.mem_of_getElem? (i := 58) rfl)))), by decide +kernel⟩
theorem tw_t539 : tw (Jvm.Cond.instanceMethod ({ cls := "TestEmitter$Data", name := "used", desc := "()I" } : Jvm.MethodName)) := ⟨List.mem_append_right _ (List.mem_append_right _ (List.mem_append_right _ (List.mem_append_left _ (List.mem_of_getElem? (i := 59) rfl)))), by decide +kernel⟩
theorem tw_t540 : tw (Jvm.Cond.selects "TestEmitter$Data" ({ cls := "TestEmitter$Data", name := "used", desc := "()I" } : Jvm.MethodName) ({ cls := "TestEmitter$Data", name := "used", desc := "()I" } : Jvm.MethodName)) := ⟨List.mem_append_right _ (List.mem_append_right _ (List.mem_append_right _ (List.mem_append_left _ (List.mem_of_getElem? (i := 60) rfl)))), by decide +kernel⟩
theorem tw_t541 : tw (Jvm.Cond.code ({ cls := "TestEmitter$Data", name := "used", desc := "()I" } : Jvm.MethodName) prog_4_method_4_code (1 : Nat) (Option.some Jvm.ClassFile.FieldType.int)) := ⟨List.mem_append_right _ (List.mem_append_right _ (List.mem_append_right _ (List.mem_append_left _ (List.mem_of_getElem? (i := 61) rfl)))), by decide +kernel⟩
theorem tw_t542 : tw (Jvm.Cond.methodLink "TestEmitter" (129 : Nat) ({ cls := "TestEmitter", name := "writeAssertion", desc := "()V" } : Jvm.MethodName)) := ⟨List.mem_append_right _ (List.mem_append_right _ (List.mem_append_right _ (List.mem_append_left _ (List.mem_of_getElem? (i := 62) rfl)))), by decide +kernel⟩
theorem tw_t544 : tw (Jvm.Cond.instanceMethod ({ cls := "TestEmitter", name := "writeAssertion", desc := "()V" } : Jvm.MethodName)) := ⟨List.mem_append_right _ (List.mem_append_right _ (List.mem_append_right _ (List.mem_append_left _ (List.mem_of_getElem? (i := 64) rfl)))), by decide +kernel⟩
theorem tw_t545 : tw (Jvm.Cond.code ({ cls := "TestEmitter", name := "writeAssertion", desc := "()V" } : Jvm.MethodName) prog_1_method_17_code (1 : Nat) (Option.none : Option Jvm.ClassFile.FieldType)) := ⟨List.mem_append_right _ (List.mem_append_right _ (List.mem_append_right _ (List.mem_append_left _ (List.mem_of_getElem? (i := 65) rfl)))), by decide +kernel⟩
theorem tw_t546 : tw (Jvm.Cond.methodLink "TestEmitter" (172 : Nat) ({ cls := "TestEmitter$Type", name := "isSingle", desc := "(I)Z" } : Jvm.MethodName)) := ⟨List.mem_append_right _ (List.mem_append_right _ (List.mem_append_right _ (List.mem_append_left _ (List.mem_of_getElem? (i := 66) rfl)))), by decide +kernel⟩
theorem tw_t547 : tw (Jvm.Cond.methodLink "TestEmitter" (175 : Nat) ({ cls := "TestEmitter$Chars", name := "put", desc := "(LTestEmitter$Chars;)V" } : Jvm.MethodName)) := ⟨List.mem_append_right _ (List.mem_append_right _ (List.mem_append_right _ (List.mem_append_left _ (List.mem_of_getElem? (i := 67) rfl)))), by decide +kernel⟩
theorem tw_t548 : tw (Jvm.Cond.instanceMethod ({ cls := "TestEmitter$Chars", name := "put", desc := "(LTestEmitter$Chars;)V" } : Jvm.MethodName)) := ⟨List.mem_append_right _ (List.mem_append_right _ (List.mem_append_right _ (List.mem_append_left _ (List.mem_of_getElem? (i := 68) rfl)))), by decide +kernel⟩
theorem tw_t549 : tw (Jvm.Cond.selects "TestEmitter$Chars" ({ cls := "TestEmitter$Chars", name := "put", desc := "(LTestEmitter$Chars;)V" } : Jvm.MethodName) ({ cls := "TestEmitter$Chars", name := "put", desc := "(LTestEmitter$Chars;)V" } : Jvm.MethodName)) := ⟨List.mem_append_right _ (List.mem_append_right _ (List.mem_append_right _ (List.mem_append_left _ (List.mem_of_getElem? (i := 69) rfl)))), by decide +kernel⟩
theorem tw_t550 : tw (Jvm.Cond.code ({ cls := "TestEmitter$Chars", name := "put", desc := "(LTestEmitter$Chars;)V" } : Jvm.MethodName) prog_3_method_7_code (2 : Nat) (Option.none : Option Jvm.ClassFile.FieldType)) := ⟨List.mem_append_right _ (List.mem_append_right _ (List.mem_append_right _ (List.mem_append_left _ (List.mem_of_getElem? (i := 70) rfl)))), by decide +kernel⟩
theorem tw_t551 : tw (Jvm.Cond.methodLink "TestEmitter$Chars" (38 : Nat) ({ cls := "TestEmitter$Chars", name := "put", desc := "(LTestEmitter$Chars;II)V" } : Jvm.MethodName)) := ⟨List.mem_append_right _ (List.mem_append_right _ (List.mem_append_right _ (List.mem_append_left _ (List.mem_of_getElem? (i := 71) rfl)))), by decide +kernel⟩
theorem tw_t552 : tw (Jvm.Cond.instanceMethod ({ cls := "TestEmitter$Chars", name := "put", desc := "(LTestEmitter$Chars;II)V" } : Jvm.MethodName)) := ⟨List.mem_append_right _ (List.mem_append_right _ (List.mem_append_right _ (List.mem_append_left _ (List.mem_of_getElem? (i := 72) rfl)))), by decide +kernel⟩
theorem tw_t553 : tw (Jvm.Cond.selects "TestEmitter$Chars" ({ cls := "TestEmitter$Chars", name := "put", desc := "(LTestEmitter$Chars;II)V" } : Jvm.MethodName) ({ cls := "TestEmitter$Chars", name := "put", desc := "(LTestEmitter$Chars;II)V" } : Jvm.MethodName)) := ⟨List.mem_append_right _ (List.mem_append_right _ (List.mem_append_right _ (List.mem_append_left _ (List.mem_of_getElem? (i := 73) rfl)))), by decide +kernel⟩
theorem tw_t554 : tw (Jvm.Cond.code ({ cls := "TestEmitter$Chars", name := "put", desc := "(LTestEmitter$Chars;II)V" } : Jvm.MethodName) prog_3_method_8_code (5 : Nat) (Option.none : Option Jvm.ClassFile.FieldType)) := ⟨List.mem_append_right _ (List.mem_append_right _ (List.mem_append_right _ (List.mem_append_left _ (List.mem_of_getElem? (i := 74) rfl)))), by decide +kernel⟩
theorem tw_t555 : tw (Jvm.Cond.methodLink "TestEmitter$Chars" (41 : Nat) ({ cls := "TestEmitter$Chars", name := "get", desc := "(I)I" } : Jvm.MethodName)) := ⟨List.mem_append_right _ (List.mem_append_right _ (List.mem_append_right _ (List.mem_append_left _ (List.mem_of_getElem? (i := 75) rfl)))), by decide +kernel⟩
theorem tw_t557 : tw (Jvm.Cond.methodLink "TestEmitter" (180 : Nat) ({ cls := "TestEmitter$Chars", name := "put", desc := "(Ljava/lang/String;)V" } : Jvm.MethodName)) := ⟨List.mem_append_right _ (List.mem_append_right _ (List.mem_append_right _ (List.mem_append_left _ (List.mem_of_getElem? (i := 77) rfl)))), by decide +kernel⟩
theorem tw_t559 : tw (Jvm.Cond.methodLink "TestEmitter" (185 : Nat) ({ cls := "TestEmitter$Chars", name := "holds", desc := "(Ljava/lang/String;)Z" } : Jvm.MethodName)) := ⟨List.mem_append_right _ (List.mem_append_right _ (List.mem_append_right _ (List.mem_append_left _ (List.mem_of_getElem? (i := 79) rfl)))), by decide +kernel⟩
theorem tw_t564 : tw (Jvm.Cond.methodLink "TestEmitter" (197 : Nat) ({ cls := "TestEmitter$Type", name := "brackets", desc := "()I" } : Jvm.MethodName)) := ⟨List.mem_append_right _ (List.mem_append_right _ (List.mem_append_right _ (List.mem_append_left _ (List.mem_of_getElem? (i := 84) rfl)))), by decide +kernel⟩
theorem tw_t572 : tw (Jvm.Cond.methodLink "TestEmitter" (132 : Nat) ({ cls := "TestEmitter", name := "keepBody", desc := "(Z)I" } : Jvm.MethodName)) := ⟨List.mem_append_right _ (List.mem_append_right _ (List.mem_append_right _ (List.mem_append_left _ (List.mem_of_getElem? (i := 92) rfl)))), by decide +kernel⟩
theorem tw_t574 : tw (Jvm.Cond.instanceMethod ({ cls := "TestEmitter", name := "keepBody", desc := "(Z)I" } : Jvm.MethodName)) := ⟨List.mem_append_right _ (List.mem_append_right _ (List.mem_append_right _ (List.mem_append_left _ (List.mem_of_getElem? (i := 94) rfl)))), by decide +kernel⟩
theorem tw_t575 : tw (Jvm.Cond.code ({ cls := "TestEmitter", name := "keepBody", desc := "(Z)I" } : Jvm.MethodName) prog_1_method_19_code (2 : Nat) (Option.some Jvm.ClassFile.FieldType.int)) := ⟨List.mem_append_right _ (List.mem_append_right _ (List.mem_append_right _ (List.mem_append_left _ (List.mem_of_getElem? (i := 95) rfl)))), by decide +kernel⟩
theorem tw_t576 : tw (Jvm.Cond.methodLink "TestEmitter" (222 : Nat) ({ cls := "TestEmitter$Suite", name := "holds", desc := "(LTestEmitter$Chars;)Z" } : Jvm.MethodName)) := ⟨List.mem_append_right _ (List.mem_append_right _ (List.mem_append_right _ (List.mem_append_left _ (List.mem_of_getElem? (i := 96) rfl)))), by decide +kernel⟩
theorem tw_t577 : tw (Jvm.Cond.instanceMethod ({ cls := "TestEmitter$Suite", name := "holds", desc := "(LTestEmitter$Chars;)Z" } : Jvm.MethodName)) := ⟨List.mem_append_right _ (List.mem_append_right _ (List.mem_append_right _ (List.mem_append_left _ (List.mem_of_getElem? (i := 97) rfl)))), by decide +kernel⟩
theorem tw_t578 : tw (Jvm.Cond.selects "TestEmitter$Suite" ({ cls := "TestEmitter$Suite", name := "holds", desc := "(LTestEmitter$Chars;)Z" } : Jvm.MethodName) ({ cls := "TestEmitter$Suite", name := "holds", desc := "(LTestEmitter$Chars;)Z" } : Jvm.MethodName)) := ⟨List.mem_append_right _ (List.mem_append_right _ (List.mem_append_right _ (List.mem_append_left _ (List.mem_of_getElem? (i := 98) rfl)))), by decide +kernel⟩
theorem tw_t579 : tw (Jvm.Cond.code ({ cls := "TestEmitter$Suite", name := "holds", desc := "(LTestEmitter$Chars;)Z" } : Jvm.MethodName) prog_5_method_6_code (3 : Nat) (Option.some Jvm.ClassFile.FieldType.boolean)) := ⟨List.mem_append_right _ (List.mem_append_right _ (List.mem_append_right _ (List.mem_append_left _ (List.mem_of_getElem? (i := 99) rfl)))), by decide +kernel⟩
theorem tw_t580 : tw (Jvm.Cond.methodLink "TestEmitter$Suite" (24 : Nat) ({ cls := "TestEmitter$Chars", name := "sameAs", desc := "(LTestEmitter$Chars;)Z" } : Jvm.MethodName)) := ⟨List.mem_append_right _ (List.mem_append_right _ (List.mem_append_right _ (List.mem_append_left _ (List.mem_of_getElem? (i := 100) rfl)))), by decide +kernel⟩
theorem tw_t581 : tw (Jvm.Cond.instanceMethod ({ cls := "TestEmitter$Chars", name := "sameAs", desc := "(LTestEmitter$Chars;)Z" } : Jvm.MethodName)) := ⟨List.mem_append_right _ (List.mem_append_right _ (List.mem_append_right _ (List.mem_append_left _ (List.mem_of_getElem? (i := 101) rfl)))), by decide +kernel⟩
theorem tw_t582 : tw (Jvm.Cond.selects "TestEmitter$Chars" ({ cls := "TestEmitter$Chars", name := "sameAs", desc := "(LTestEmitter$Chars;)Z" } : Jvm.MethodName) ({ cls := "TestEmitter$Chars", name := "sameAs", desc := "(LTestEmitter$Chars;)Z" } : Jvm.MethodName)) := ⟨List.mem_append_right _ (List.mem_append_right _ (List.mem_append_right _ (List.mem_append_left _ (List.mem_of_getElem? (i := 102) rfl)))), by decide +kernel⟩
theorem tw_t583 : tw (Jvm.Cond.code ({ cls := "TestEmitter$Chars", name := "sameAs", desc := "(LTestEmitter$Chars;)Z" } : Jvm.MethodName) prog_3_method_12_code (3 : Nat) (Option.some Jvm.ClassFile.FieldType.boolean)) := ⟨List.mem_append_right _ (List.mem_append_right _ (List.mem_append_right _ (List.mem_append_left _ (List.mem_of_getElem? (i := 103) rfl)))), by decide +kernel⟩
theorem tw_t584 : tw (Jvm.Cond.methodLink "TestEmitter" (225 : Nat) ({ cls := "TestEmitter$Suite", name := "add", desc := "(LTestEmitter$Chars;Z)I" } : Jvm.MethodName)) := ⟨List.mem_append_right _ (List.mem_append_right _ (List.mem_append_right _ (List.mem_append_left _ (List.mem_of_getElem? (i := 104) rfl)))), by decide +kernel⟩
theorem tw_t585 : tw (Jvm.Cond.instanceMethod ({ cls := "TestEmitter$Suite", name := "add", desc := "(LTestEmitter$Chars;Z)I" } : Jvm.MethodName)) := ⟨List.mem_append_right _ (List.mem_append_right _ (List.mem_append_right _ (List.mem_append_left _ (List.mem_of_getElem? (i := 105) rfl)))), by decide +kernel⟩
theorem tw_t586 : tw (Jvm.Cond.selects "TestEmitter$Suite" ({ cls := "TestEmitter$Suite", name := "add", desc := "(LTestEmitter$Chars;Z)I" } : Jvm.MethodName) ({ cls := "TestEmitter$Suite", name := "add", desc := "(LTestEmitter$Chars;Z)I" } : Jvm.MethodName)) := ⟨List.mem_append_right _ (List.mem_append_right _ (List.mem_append_right _ (List.mem_append_left _ (List.mem_of_getElem? (i := 106) rfl)))), by decide +kernel⟩
theorem tw_t587 : tw (Jvm.Cond.code ({ cls := "TestEmitter$Suite", name := "add", desc := "(LTestEmitter$Chars;Z)I" } : Jvm.MethodName) prog_5_method_7_code (3 : Nat) (Option.some Jvm.ClassFile.FieldType.int)) := ⟨List.mem_append_right _ (List.mem_append_right _ (List.mem_append_right _ (List.mem_append_left _ (List.mem_of_getElem? (i := 107) rfl)))), by decide +kernel⟩
theorem tw_t588 : tw (Jvm.Cond.methodLink "TestEmitter$Suite" (28 : Nat) ({ cls := "TestEmitter$Suite", name := "isFull", desc := "()Z" } : Jvm.MethodName)) := ⟨List.mem_append_right _ (List.mem_append_right _ (List.mem_append_right _ (List.mem_append_left _ (List.mem_of_getElem? (i := 108) rfl)))), by decide +kernel⟩
theorem tw_t589 : tw (Jvm.Cond.methodLink "TestEmitter$Suite" (32 : Nat) ({ cls := "TestEmitter$Chars", name := "length", desc := "()I" } : Jvm.MethodName)) := ⟨List.mem_append_right _ (List.mem_append_right _ (List.mem_append_right _ (List.mem_append_left _ (List.mem_of_getElem? (i := 109) rfl)))), by decide +kernel⟩
theorem tw_t590 : tw (Jvm.Cond.methodLink "TestEmitter$Suite" (36 : Nat) ({ cls := "TestEmitter$Chars", name := "<init>", desc := "(I)V" } : Jvm.MethodName)) := ⟨List.mem_append_right _ (List.mem_append_right _ (List.mem_append_right _ (List.mem_append_left _ (List.mem_of_getElem? (i := 110) rfl)))), by decide +kernel⟩
theorem tw_t591 : tw (Jvm.Cond.methodLink "TestEmitter$Suite" (39 : Nat) ({ cls := "TestEmitter$Chars", name := "put", desc := "(LTestEmitter$Chars;)V" } : Jvm.MethodName)) := ⟨List.mem_append_right _ (List.mem_append_right _ (List.mem_append_right _ (List.mem_append_left _ (List.mem_of_getElem? (i := 111) rfl)))), by decide +kernel⟩
theorem tw_t592 : tw (Jvm.Cond.methodLink "TestEmitterLaw" (51 : Nat) ({ cls := "TestEmitter", name := "threw", desc := "()I" } : Jvm.MethodName)) := ⟨List.mem_append_right _ (List.mem_append_right _ (List.mem_append_right _ (List.mem_append_left _ (List.mem_of_getElem? (i := 112) rfl)))), by decide +kernel⟩
theorem tw_t593 : tw (Jvm.Cond.instanceMethod ({ cls := "TestEmitter", name := "threw", desc := "()I" } : Jvm.MethodName)) := ⟨List.mem_append_right _ (List.mem_append_right _ (List.mem_append_right _ (List.mem_append_left _ (List.mem_of_getElem? (i := 113) rfl)))), by decide +kernel⟩
theorem tw_t594 : tw (Jvm.Cond.selects "TestEmitter" ({ cls := "TestEmitter", name := "threw", desc := "()I" } : Jvm.MethodName) ({ cls := "TestEmitter", name := "threw", desc := "()I" } : Jvm.MethodName)) := ⟨List.mem_append_right _ (List.mem_append_right _ (List.mem_append_right _ (List.mem_append_left _ (List.mem_of_getElem? (i := 114) rfl)))), by decide +kernel⟩
theorem tw_t595 : tw (Jvm.Cond.code ({ cls := "TestEmitter", name := "threw", desc := "()I" } : Jvm.MethodName) prog_1_method_9_code (3 : Nat) (Option.some Jvm.ClassFile.FieldType.int)) := ⟨List.mem_append_right _ (List.mem_append_right _ (List.mem_append_right _ (List.mem_append_left _ (List.mem_of_getElem? (i := 115) rfl)))), by decide +kernel⟩
theorem tw_t596 : tw (Jvm.Cond.methodLink "TestEmitter" (136 : Nat) ({ cls := "TestEmitter$Chars", name := "isName", desc := "()Z" } : Jvm.MethodName)) := ⟨List.mem_append_right _ (List.mem_append_right _ (List.mem_append_right _ (List.mem_append_left _ (List.mem_of_getElem? (i := 116) rfl)))), by decide +kernel⟩
theorem tw_t597 : tw (Jvm.Cond.instanceMethod ({ cls := "TestEmitter$Chars", name := "isName", desc := "()Z" } : Jvm.MethodName)) := ⟨List.mem_append_right _ (List.mem_append_right _ (List.mem_append_right _ (List.mem_append_left _ (List.mem_of_getElem? (i := 117) rfl)))), by decide +kernel⟩
theorem tw_t598 : tw (Jvm.Cond.selects "TestEmitter$Chars" ({ cls := "TestEmitter$Chars", name := "isName", desc := "()Z" } : Jvm.MethodName) ({ cls := "TestEmitter$Chars", name := "isName", desc := "()Z" } : Jvm.MethodName)) := ⟨List.mem_append_right _ (List.mem_append_right _ (List.mem_append_right _ (List.mem_append_left _ (List.mem_of_getElem? (i := 118) rfl)))), by decide +kernel⟩
theorem tw_t599 : tw (Jvm.Cond.code ({ cls := "TestEmitter$Chars", name := "isName", desc := "()Z" } : Jvm.MethodName) prog_3_method_13_code (3 : Nat) (Option.some Jvm.ClassFile.FieldType.boolean)) := ⟨List.mem_append_right _ (List.mem_append_right _ (List.mem_append_right _ (List.mem_append_left _ (List.mem_of_getElem? (i := 119) rfl)))), by decide +kernel⟩
theorem tw_t600 : tw (Jvm.Cond.methodLink "TestEmitter" (139 : Nat) ({ cls := "TestEmitter", name := "writeCatch", desc := "()V" } : Jvm.MethodName)) := ⟨List.mem_append_right _ (List.mem_append_right _ (List.mem_append_right _ (List.mem_append_left _ (List.mem_of_getElem? (i := 120) rfl)))), by decide +kernel⟩
theorem tw_t602 : tw (Jvm.Cond.instanceMethod ({ cls := "TestEmitter", name := "writeCatch", desc := "()V" } : Jvm.MethodName)) := ⟨List.mem_append_right _ (List.mem_append_right _ (List.mem_append_right _ (List.mem_append_left _ (List.mem_of_getElem? (i := 122) rfl)))), by decide +kernel⟩
theorem tw_t603 : tw (Jvm.Cond.code ({ cls := "TestEmitter", name := "writeCatch", desc := "()V" } : Jvm.MethodName) prog_1_method_18_code (1 : Nat) (Option.none : Option Jvm.ClassFile.FieldType)) := ⟨List.mem_append_right _ (List.mem_append_right _ (List.mem_append_right _ (List.mem_append_left _ (List.mem_of_getElem? (i := 123) rfl)))), by decide +kernel⟩
theorem tw_t608 : tw (Jvm.Cond.methodLink "TestEmitterLaw" (55 : Nat) ({ cls := "TestEmitter", name := "taken", desc := "()I" } : Jvm.MethodName)) := ⟨List.mem_append_right _ (List.mem_append_right _ (List.mem_append_right _ (List.mem_append_left _ (List.mem_of_getElem? (i := 128) rfl)))), by decide +kernel⟩
theorem tw_t609 : tw (Jvm.Cond.instanceMethod ({ cls := "TestEmitter", name := "taken", desc := "()I" } : Jvm.MethodName)) := ⟨List.mem_append_right _ (List.mem_append_right _ (List.mem_append_right _ (List.mem_append_left _ (List.mem_of_getElem? (i := 129) rfl)))), by decide +kernel⟩
theorem tw_t610 : tw (Jvm.Cond.selects "TestEmitter" ({ cls := "TestEmitter", name := "taken", desc := "()I" } : Jvm.MethodName) ({ cls := "TestEmitter", name := "taken", desc := "()I" } : Jvm.MethodName)) := ⟨List.mem_append_right _ (List.mem_append_right _ (List.mem_append_right _ (List.mem_append_left _ (List.mem_of_getElem? (i := 130) rfl)))), by decide +kernel⟩
theorem tw_t611 : tw (Jvm.Cond.code ({ cls := "TestEmitter", name := "taken", desc := "()I" } : Jvm.MethodName) prog_1_method_10_code (1 : Nat) (Option.some Jvm.ClassFile.FieldType.int)) := ⟨List.mem_append_right _ (List.mem_append_right _ (List.mem_append_right _ (List.mem_append_left _ (List.mem_of_getElem? (i := 131) rfl)))), by decide +kernel⟩
theorem tw_t612 : tw (Jvm.Cond.methodLink "TestEmitterLaw" (59 : Nat) ({ cls := "TestEmitter", name := "drop", desc := "()I" } : Jvm.MethodName)) := ⟨List.mem_append_right _ (List.mem_append_right _ (List.mem_append_right _ (List.mem_append_left _ (List.mem_of_getElem? (i := 132) rfl)))), by decide +kernel⟩
theorem tw_t613 : tw (Jvm.Cond.instanceMethod ({ cls := "TestEmitter", name := "drop", desc := "()I" } : Jvm.MethodName)) := ⟨List.mem_append_right _ (List.mem_append_right _ (List.mem_append_right _ (List.mem_append_left _ (List.mem_of_getElem? (i := 133) rfl)))), by decide +kernel⟩
theorem tw_t614 : tw (Jvm.Cond.selects "TestEmitter" ({ cls := "TestEmitter", name := "drop", desc := "()I" } : Jvm.MethodName) ({ cls := "TestEmitter", name := "drop", desc := "()I" } : Jvm.MethodName)) := ⟨List.mem_append_right _ (List.mem_append_right _ (List.mem_append_right _ (List.mem_append_left _ (List.mem_of_getElem? (i := 134) rfl)))), by decide +kernel⟩
theorem tw_t615 : tw (Jvm.Cond.code ({ cls := "TestEmitter", name := "drop", desc := "()I" } : Jvm.MethodName) prog_1_method_11_code (2 : Nat) (Option.some Jvm.ClassFile.FieldType.int)) := ⟨List.mem_append_right _ (List.mem_append_right _ (List.mem_append_right _ (List.mem_append_left _ (List.mem_of_getElem? (i := 135) rfl)))), by decide +kernel⟩
theorem tw_t616 : tw (Jvm.Cond.methodLink "TestEmitter" (142 : Nat) ({ cls := "TestEmitter$Suite", name := "size", desc := "()I" } : Jvm.MethodName)) := ⟨List.mem_append_right _ (List.mem_append_right _ (List.mem_append_right _ (List.mem_append_left _ (List.mem_of_getElem? (i := 136) rfl)))), by decide +kernel⟩
theorem tw_t617 : tw (Jvm.Cond.instanceMethod ({ cls := "TestEmitter$Suite", name := "size", desc := "()I" } : Jvm.MethodName)) := ⟨List.mem_append_right _ (List.mem_append_right _ (List.mem_append_right _ (List.mem_append_left _ (List.mem_of_getElem? (i := 137) rfl)))), by decide +kernel⟩
theorem tw_t618 : tw (Jvm.Cond.selects "TestEmitter$Suite" ({ cls := "TestEmitter$Suite", name := "size", desc := "()I" } : Jvm.MethodName) ({ cls := "TestEmitter$Suite", name := "size", desc := "()I" } : Jvm.MethodName)) := ⟨List.mem_append_right _ (List.mem_append_right _ (List.mem_append_right _ (List.mem_append_left _ (List.mem_of_getElem? (i := 138) rfl)))), by decide +kernel⟩
theorem tw_t619 : tw (Jvm.Cond.code ({ cls := "TestEmitter$Suite", name := "size", desc := "()I" } : Jvm.MethodName) prog_5_method_2_code (1 : Nat) (Option.some Jvm.ClassFile.FieldType.int)) := ⟨List.mem_append_right _ (List.mem_append_right _ (List.mem_append_right _ (List.mem_append_left _ (List.mem_of_getElem? (i := 139) rfl)))), by decide +kernel⟩
theorem tw_t620 : tw (Jvm.Cond.methodLink "TestEmitter" (143 : Nat) ({ cls := "TestEmitter$Suite", name := "empty", desc := "()V" } : Jvm.MethodName)) := ⟨List.mem_append_right _ (List.mem_append_right _ (List.mem_append_right _ (List.mem_append_left _ (List.mem_of_getElem? (i := 140) rfl)))), by decide +kernel⟩
theorem tw_t621 : tw (Jvm.Cond.instanceMethod ({ cls := "TestEmitter$Suite", name := "empty", desc := "()V" } : Jvm.MethodName)) := ⟨List.mem_append_right _ (List.mem_append_right _ (List.mem_append_right _ (List.mem_append_left _ (List.mem_of_getElem? (i := 141) rfl)))), by decide +kernel⟩
theorem tw_t622 : tw (Jvm.Cond.selects "TestEmitter$Suite" ({ cls := "TestEmitter$Suite", name := "empty", desc := "()V" } : Jvm.MethodName) ({ cls := "TestEmitter$Suite", name := "empty", desc := "()V" } : Jvm.MethodName)) := ⟨List.mem_append_right _ (List.mem_append_right _ (List.mem_append_right _ (List.mem_append_left _ (List.mem_of_getElem? (i := 142) rfl)))), by decide +kernel⟩
theorem tw_t623 : tw (Jvm.Cond.code ({ cls := "TestEmitter$Suite", name := "empty", desc := "()V" } : Jvm.MethodName) prog_5_method_8_code (1 : Nat) (Option.none : Option Jvm.ClassFile.FieldType)) := ⟨List.mem_append_right _ (List.mem_append_right _ (List.mem_append_right _ (List.mem_append_left _ (List.mem_of_getElem? (i := 143) rfl)))), by decide +kernel⟩
theorem tw_t624 : tw (Jvm.Cond.methodLink "TestEmitterLaw" (63 : Nat) ({ cls := "TestEmitter", name := "emit", desc := "()I" } : Jvm.MethodName)) := ⟨List.mem_append_right _ (List.mem_append_right _ (List.mem_append_right _ (List.mem_append_left _ (List.mem_of_getElem? (i := 144) rfl)))), by decide +kernel⟩
theorem tw_t625 : tw (Jvm.Cond.instanceMethod ({ cls := "TestEmitter", name := "emit", desc := "()I" } : Jvm.MethodName)) := ⟨List.mem_append_right _ (List.mem_append_right _ (List.mem_append_right _ (List.mem_append_left _ (List.mem_of_getElem? (i := 145) rfl)))), by decide +kernel⟩
theorem tw_t626 : tw (Jvm.Cond.selects "TestEmitter" ({ cls := "TestEmitter", name := "emit", desc := "()I" } : Jvm.MethodName) ({ cls := "TestEmitter", name := "emit", desc := "()I" } : Jvm.MethodName)) := ⟨List.mem_append_right _ (List.mem_append_right _ (List.mem_append_right _ (List.mem_append_left _ (List.mem_of_getElem? (i := 146) rfl)))), by decide +kernel⟩
theorem tw_t627 : tw (Jvm.Cond.code ({ cls := "TestEmitter", name := "emit", desc := "()I" } : Jvm.MethodName) prog_1_method_12_code (1 : Nat) (Option.some Jvm.ClassFile.FieldType.int)) := ⟨List.mem_append_right _ (List.mem_append_right _ (List.mem_append_right _ (List.mem_append_left _ (List.mem_of_getElem? (i := 147) rfl)))), by decide +kernel⟩
theorem tw_t628 : tw (Jvm.Cond.methodLink "TestEmitter" (144 : Nat) ({ cls := "TestEmitter$Text", name := "write", desc := "(LTestEmitter$Suite;)V" } : Jvm.MethodName)) := ⟨List.mem_append_right _ (List.mem_append_right _ (List.mem_append_right _ (List.mem_append_left _ (List.mem_of_getElem? (i := 148) rfl)))), by decide +kernel⟩
theorem tw_t629 : tw (Jvm.Cond.instanceMethod ({ cls := "TestEmitter$Text", name := "write", desc := "(LTestEmitter$Suite;)V" } : Jvm.MethodName)) := ⟨List.mem_append_right _ (List.mem_append_right _ (List.mem_append_right _ (List.mem_append_left _ (List.mem_of_getElem? (i := 149) rfl)))), by decide +kernel⟩
theorem tw_t630 : tw (Jvm.Cond.selects "TestEmitter$Text" ({ cls := "TestEmitter$Text", name := "write", desc := "(LTestEmitter$Suite;)V" } : Jvm.MethodName) ({ cls := "TestEmitter$Text", name := "write", desc := "(LTestEmitter$Suite;)V" } : Jvm.MethodName)) := ⟨List.mem_append_right _ (List.mem_append_right _ (List.mem_append_right _ (List.mem_append_left _ (List.mem_of_getElem? (i := 150) rfl)))), by decide +kernel⟩
theorem tw_t631 : tw (Jvm.Cond.code ({ cls := "TestEmitter$Text", name := "write", desc := "(LTestEmitter$Suite;)V" } : Jvm.MethodName) prog_6_method_8_code (3 : Nat) (Option.none : Option Jvm.ClassFile.FieldType)) := ⟨List.mem_append_right _ (List.mem_append_right _ (List.mem_append_right _ (List.mem_append_left _ (List.mem_of_getElem? (i := 151) rfl)))), by decide +kernel⟩
theorem tw_t632 : tw (Jvm.Cond.methodLink "TestEmitter$Text" (45 : Nat) ({ cls := "TestEmitter$Text", name := "empty", desc := "()V" } : Jvm.MethodName)) := ⟨List.mem_append_right _ (List.mem_append_right _ (List.mem_append_right _ (List.mem_append_left _ (List.mem_of_getElem? (i := 152) rfl)))), by decide +kernel⟩
theorem tw_t634 : tw (Jvm.Cond.instanceMethod ({ cls := "TestEmitter$Text", name := "empty", desc := "()V" } : Jvm.MethodName)) := ⟨List.mem_append_right _ (List.mem_append_right _ (List.mem_append_right _ (List.mem_append_left _ (List.mem_of_getElem? (i := 154) rfl)))), by decide +kernel⟩
theorem tw_t635 : tw (Jvm.Cond.code ({ cls := "TestEmitter$Text", name := "empty", desc := "()V" } : Jvm.MethodName) prog_6_method_9_code (1 : Nat) (Option.none : Option Jvm.ClassFile.FieldType)) := ⟨List.mem_append_right _ (List.mem_append_right _ (List.mem_append_right _ (List.mem_append_left _ (List.mem_of_getElem? (i := 155) rfl)))), by decide +kernel⟩
theorem tw_t636 : tw (Jvm.Cond.methodLink "TestEmitter$Text" (87 : Nat) ({ cls := "TestEmitter$Chars", name := "empty", desc := "()V" } : Jvm.MethodName)) := ⟨List.mem_append_right _ (List.mem_append_right _ (List.mem_append_right _ (List.mem_append_left _ (List.mem_of_getElem? (i := 156) rfl)))), by decide +kernel⟩
theorem tw_t638 : tw (Jvm.Cond.methodLink "TestEmitter$Text" (50 : Nat) ({ cls := "TestEmitter$Text", name := "writeLine", desc := "(Ljava/lang/String;)V" } : Jvm.MethodName)) := ⟨List.mem_append_right _ (List.mem_append_right _ (List.mem_append_right _ (List.mem_append_left _ (List.mem_of_getElem? (i := 158) rfl)))), by decide +kernel⟩
theorem tw_t640 : tw (Jvm.Cond.instanceMethod ({ cls := "TestEmitter$Text", name := "writeLine", desc := "(Ljava/lang/String;)V" } : Jvm.MethodName)) := ⟨List.mem_append_right _ (List.mem_append_right _ (List.mem_append_right _ (List.mem_append_left _ (List.mem_of_getElem? (i := 160) rfl)))), by decide +kernel⟩
theorem tw_t641 : tw (Jvm.Cond.code ({ cls := "TestEmitter$Text", name := "writeLine", desc := "(Ljava/lang/String;)V" } : Jvm.MethodName) prog_6_method_13_code (2 : Nat) (Option.none : Option Jvm.ClassFile.FieldType)) := ⟨List.mem_append_right _ (List.mem_append_right _ (List.mem_append_right _ (List.mem_append_left _ (List.mem_of_getElem? (i := 161) rfl)))), by decide +kernel⟩
theorem tw_t642 : tw (Jvm.Cond.methodLink "TestEmitter$Text" (66 : Nat) ({ cls := "TestEmitter$Chars", name := "put", desc := "(Ljava/lang/String;)V" } : Jvm.MethodName)) := ⟨List.mem_append_right _ (List.mem_append_right _ (List.mem_append_right _ (List.mem_append_left _ (List.mem_of_getElem? (i := 162) rfl)))), by decide +kernel⟩
theorem tw_t643 : tw (Jvm.Cond.methodLink "TestEmitter$Text" (59 : Nat) ({ cls := "TestEmitter$Text", name := "endLine", desc := "()V" } : Jvm.MethodName)) := ⟨List.mem_append_right _ (List.mem_append_right _ (List.mem_append_right _ (List.mem_append_left _ (List.mem_of_getElem? (i := 163) rfl)))), by decide +kernel⟩
theorem tw_t645 : tw (Jvm.Cond.instanceMethod ({ cls := "TestEmitter$Text", name := "endLine", desc := "()V" } : Jvm.MethodName)) := ⟨List.mem_append_right _ (List.mem_append_right _ (List.mem_append_right _ (List.mem_append_left _ (List.mem_of_getElem? (i := 165) rfl)))), by decide +kernel⟩
theorem tw_t646 : tw (Jvm.Cond.code ({ cls := "TestEmitter$Text", name := "endLine", desc := "()V" } : Jvm.MethodName) prog_6_method_14_code (2 : Nat) (Option.none : Option Jvm.ClassFile.FieldType)) := ⟨List.mem_append_right _ (List.mem_append_right _ (List.mem_append_right _ (List.mem_append_left _ (List.mem_of_getElem? (i := 166) rfl)))), by decide +kernel⟩
theorem tw_t647 : tw (Jvm.Cond.methodLink "TestEmitter$Text" (104 : Nat) ({ cls := "java/lang/System", name := "arraycopy", desc := "(Ljava/lang/Object;ILjava/lang/Object;II)V" } : Jvm.MethodName)) := ⟨List.mem_append_right _ (List.mem_append_right _ (List.mem_append_right _ (List.mem_append_left _ (List.mem_of_getElem? (i := 167) rfl)))), by decide +kernel⟩
theorem tw_t648 : tw (Jvm.Cond.methodLink "TestEmitter$Text" (28 : Nat) ({ cls := "TestEmitter$Chars", name := "length", desc := "()I" } : Jvm.MethodName)) := ⟨List.mem_append_right _ (List.mem_append_right _ (List.mem_append_right _ (List.mem_append_left _ (List.mem_of_getElem? (i := 168) rfl)))), by decide +kernel⟩
theorem tw_t649 : tw (Jvm.Cond.methodLink "TestEmitter$Text" (110 : Nat) ({ cls := "java/lang/Math", name := "max", desc := "(II)I" } : Jvm.MethodName)) := ⟨List.mem_append_right _ (List.mem_append_right _ (List.mem_append_right _ (List.mem_append_left _ (List.mem_of_getElem? (i := 169) rfl)))), by decide +kernel⟩
theorem tw_t650 : tw (Jvm.Cond.methodLink "TestEmitter$Text" (116 : Nat) ({ cls := "TestEmitter$Chars", name := "put", desc := "(I)V" } : Jvm.MethodName)) := ⟨List.mem_append_right _ (List.mem_append_right _ (List.mem_append_right _ (List.mem_append_left _ (List.mem_of_getElem? (i := 170) rfl)))), by decide +kernel⟩
theorem tw_t651 : tw (Jvm.Cond.methodLink "TestEmitter$Text" (54 : Nat) ({ cls := "TestEmitter$Suite", name := "size", desc := "()I" } : Jvm.MethodName)) := ⟨List.mem_append_right _ (List.mem_append_right _ (List.mem_append_right _ (List.mem_append_left _ (List.mem_of_getElem? (i := 171) rfl)))), by decide +kernel⟩
theorem tw_t654 : tw (Jvm.Cond.methodLink "TestEmitter$Text" (69 : Nat) ({ cls := "TestEmitter$Chars", name := "putNumber", desc := "(J)V" } : Jvm.MethodName)) := ⟨List.mem_append_right _ (List.mem_append_right _ (List.mem_append_right _ (List.mem_append_left _ (List.mem_of_getElem? (i := 174) rfl)))), by decide +kernel⟩
theorem tw_t656 : tw (Jvm.Cond.methodLink "TestEmitter$Text" (75 : Nat) ({ cls := "TestEmitter$Suite", name := "bodyOf", desc := "(I)LTestEmitter$Chars;" } : Jvm.MethodName)) := ⟨List.mem_append_right _ (List.mem_append_right _ (List.mem_append_right _ (List.mem_append_left _ (List.mem_of_getElem? (i := 176) rfl)))), by decide +kernel⟩
theorem tw_t657 : tw (Jvm.Cond.instanceMethod ({ cls := "TestEmitter$Suite", name := "bodyOf", desc := "(I)LTestEmitter$Chars;" } : Jvm.MethodName)) := ⟨List.mem_append_right _ (List.mem_append_right _ (List.mem_append_right _ (List.mem_append_left _ (List.mem_of_getElem? (i := 177) rfl)))), by decide +kernel⟩
theorem tw_t658 : tw (Jvm.Cond.selects "TestEmitter$Suite" ({ cls := "TestEmitter$Suite", name := "bodyOf", desc := "(I)LTestEmitter$Chars;" } : Jvm.MethodName) ({ cls := "TestEmitter$Suite", name := "bodyOf", desc := "(I)LTestEmitter$Chars;" } : Jvm.MethodName)) := ⟨List.mem_append_right _ (List.mem_append_right _ (List.mem_append_right _ (List.mem_append_left _ (List.mem_of_getElem? (i := 178) rfl)))), by decide +kernel⟩
theorem tw_t659 : tw (Jvm.Cond.code ({ cls := "TestEmitter$Suite", name := "bodyOf", desc := "(I)LTestEmitter$Chars;" } : Jvm.MethodName) prog_5_method_5_code (2 : Nat) (Option.some (Jvm.ClassFile.FieldType.object "TestEmitter$Chars"))) := ⟨List.mem_append_right _ (List.mem_append_right _ (List.mem_append_right _ (List.mem_append_left _ (List.mem_of_getElem? (i := 179) rfl)))), by decide +kernel⟩
theorem tw_t660 : tw (Jvm.Cond.methodLink "TestEmitter$Text" (79 : Nat) ({ cls := "TestEmitter$Text", name := "writeBody", desc := "(LTestEmitter$Chars;)V" } : Jvm.MethodName)) := ⟨List.mem_append_right _ (List.mem_append_right _ (List.mem_append_right _ (List.mem_append_left _ (List.mem_of_getElem? (i := 180) rfl)))), by decide +kernel⟩
theorem tw_t662 : tw (Jvm.Cond.instanceMethod ({ cls := "TestEmitter$Text", name := "writeBody", desc := "(LTestEmitter$Chars;)V" } : Jvm.MethodName)) := ⟨List.mem_append_right _ (List.mem_append_right _ (List.mem_append_right _ (List.mem_append_left _ (List.mem_of_getElem? (i := 182) rfl)))), by decide +kernel⟩
theorem tw_t663 : tw (Jvm.Cond.code ({ cls := "TestEmitter$Text", name := "writeBody", desc := "(LTestEmitter$Chars;)V" } : Jvm.MethodName) prog_6_method_10_code (4 : Nat) (Option.none : Option Jvm.ClassFile.FieldType)) := ⟨List.mem_append_right _ (List.mem_append_right _ (List.mem_append_right _ (List.mem_append_left _ (List.mem_of_getElem? (i := 183) rfl)))), by decide +kernel⟩
theorem tw_t664 : tw (Jvm.Cond.methodLink "TestEmitter$Text" (41 : Nat) ({ cls := "TestEmitter$Chars", name := "get", desc := "(I)I" } : Jvm.MethodName)) := ⟨List.mem_append_right _ (List.mem_append_right _ (List.mem_append_right _ (List.mem_append_left _ (List.mem_of_getElem? (i := 184) rfl)))), by decide +kernel⟩
theorem tw_t665 : tw (Jvm.Cond.methodLink "TestEmitter$Text" (91 : Nat) ({ cls := "TestEmitter$Text", name := "writeBroken", desc := "(LTestEmitter$Chars;II)V" } : Jvm.MethodName)) := ⟨List.mem_append_right _ (List.mem_append_right _ (List.mem_append_right _ (List.mem_append_left _ (List.mem_of_getElem? (i := 185) rfl)))), by decide +kernel⟩
theorem tw_t667 : tw (Jvm.Cond.instanceMethod ({ cls := "TestEmitter$Text", name := "writeBroken", desc := "(LTestEmitter$Chars;II)V" } : Jvm.MethodName)) := ⟨List.mem_append_right _ (List.mem_append_right _ (List.mem_append_right _ (List.mem_append_left _ (List.mem_of_getElem? (i := 187) rfl)))), by decide +kernel⟩
theorem tw_t668 : tw (Jvm.Cond.code ({ cls := "TestEmitter$Text", name := "writeBroken", desc := "(LTestEmitter$Chars;II)V" } : Jvm.MethodName) prog_6_method_11_code (8 : Nat) (Option.none : Option Jvm.ClassFile.FieldType)) := ⟨List.mem_append_right _ (List.mem_append_right _ (List.mem_append_right _ (List.mem_append_left _ (List.mem_of_getElem? (i := 188) rfl)))), by decide +kernel⟩
theorem tw_t669 : tw (Jvm.Cond.methodLink "TestEmitter$Text" (95 : Nat) ({ cls := "TestEmitter$Text", name := "lastComma", desc := "(LTestEmitter$Chars;III)I" } : Jvm.MethodName)) := ⟨List.mem_append_right _ (List.mem_append_right _ (List.mem_append_right _ (List.mem_append_left _ (List.mem_of_getElem? (i := 189) rfl)))), by decide +kernel⟩
theorem tw_t670 : tw (Jvm.Cond.static ({ cls := "TestEmitter$Text", name := "lastComma", desc := "(LTestEmitter$Chars;III)I" } : Jvm.MethodName)) := ⟨List.mem_append_right _ (List.mem_append_right _ (List.mem_append_right _ (List.mem_append_left _ (List.mem_of_getElem? (i := 190) rfl)))), by decide +kernel⟩
theorem tw_t671 : tw (Jvm.Cond.code ({ cls := "TestEmitter$Text", name := "lastComma", desc := "(LTestEmitter$Chars;III)I" } : Jvm.MethodName) prog_6_method_12_code (8 : Nat) (Option.some Jvm.ClassFile.FieldType.int)) := ⟨List.mem_append_right _ (List.mem_append_right _ (List.mem_append_right _ (List.mem_append_left _ (List.mem_of_getElem? (i := 191) rfl)))), by decide +kernel⟩
theorem tw_t672 : tw (Jvm.Cond.methodLink "TestEmitter$Text" (99 : Nat) ({ cls := "TestEmitter$Chars", name := "putBlanks", desc := "(I)V" } : Jvm.MethodName)) := ⟨List.mem_append_right _ (List.mem_append_right _ (List.mem_append_right _ (List.mem_append_left _ (List.mem_of_getElem? (i := 192) rfl)))), by decide +kernel⟩
theorem tw_t673 : tw (Jvm.Cond.instanceMethod ({ cls := "TestEmitter$Chars", name := "putBlanks", desc := "(I)V" } : Jvm.MethodName)) := ⟨List.mem_append_right _ (List.mem_append_right _ (List.mem_append_right _ (List.mem_append_left _ (List.mem_of_getElem? (i := 193) rfl)))), by decide +kernel⟩
theorem tw_t674 : tw (Jvm.Cond.selects "TestEmitter$Chars" ({ cls := "TestEmitter$Chars", name := "putBlanks", desc := "(I)V" } : Jvm.MethodName) ({ cls := "TestEmitter$Chars", name := "putBlanks", desc := "(I)V" } : Jvm.MethodName)) := ⟨List.mem_append_right _ (List.mem_append_right _ (List.mem_append_right _ (List.mem_append_left _ (List.mem_of_getElem? (i := 194) rfl)))), by decide +kernel⟩
theorem tw_t675 : tw (Jvm.Cond.code ({ cls := "TestEmitter$Chars", name := "putBlanks", desc := "(I)V" } : Jvm.MethodName) prog_3_method_9_code (3 : Nat) (Option.none : Option Jvm.ClassFile.FieldType)) := ⟨List.mem_append_right _ (List.mem_append_right _ (List.mem_append_right _ (List.mem_append_left _ (List.mem_of_getElem? (i := 195) rfl)))), by decide +kernel⟩
theorem tw_t676 : tw (Jvm.Cond.methodLink "TestEmitter$Text" (102 : Nat) ({ cls := "TestEmitter$Chars", name := "put", desc := "(LTestEmitter$Chars;II)V" } : Jvm.MethodName)) := ⟨List.mem_append_right _ (List.mem_append_right _ (List.mem_append_right _ (List.mem_append_left _ (List.mem_of_getElem? (i := 196) rfl)))), by decide +kernel⟩
theorem tw_t679 : tw (Jvm.Cond.methodLink "TestEmitter" (148 : Nat) ({ cls := "TestEmitter$Text", name := "length", desc := "()I" } : Jvm.MethodName)) := ⟨List.mem_append_right _ (List.mem_append_right _ (List.mem_append_right _ (List.mem_append_left _ (List.mem_of_getElem? (i := 199) rfl)))), by decide +kernel⟩
theorem tw_t680 : tw (Jvm.Cond.instanceMethod ({ cls := "TestEmitter$Text", name := "length", desc := "()I" } : Jvm.MethodName)) := ⟨List.mem_append_right _ (List.mem_append_right _ (List.mem_append_right _ (List.mem_append_left _ (List.mem_of_getElem? (i := 200) rfl)))), by decide +kernel⟩
theorem tw_t681 : tw (Jvm.Cond.selects "TestEmitter$Text" ({ cls := "TestEmitter$Text", name := "length", desc := "()I" } : Jvm.MethodName) ({ cls := "TestEmitter$Text", name := "length", desc := "()I" } : Jvm.MethodName)) := ⟨List.mem_append_right _ (List.mem_append_right _ (List.mem_append_right _ (List.mem_append_left _ (List.mem_of_getElem? (i := 201) rfl)))), by decide +kernel⟩
theorem tw_t682 : tw (Jvm.Cond.code ({ cls := "TestEmitter$Text", name := "length", desc := "()I" } : Jvm.MethodName) prog_6_method_2_code (1 : Nat) (Option.some Jvm.ClassFile.FieldType.int)) := ⟨List.mem_append_right _ (List.mem_append_right _ (List.mem_append_right _ (List.mem_append_left _ (List.mem_of_getElem? (i := 202) rfl)))), by decide +kernel⟩
theorem tw_t683 : tw (Jvm.Cond.methodLink "TestEmitterLaw" (67 : Nat) ({ cls := "TestEmitter", name := "at", desc := "(I)I" } : Jvm.MethodName)) := ⟨List.mem_append_right _ (List.mem_append_right _ (List.mem_append_right _ (List.mem_append_left _ (List.mem_of_getElem? (i := 203) rfl)))), by decide +kernel⟩
theorem tw_t684 : tw (Jvm.Cond.instanceMethod ({ cls := "TestEmitter", name := "at", desc := "(I)I" } : Jvm.MethodName)) := ⟨List.mem_append_right _ (List.mem_append_right _ (List.mem_append_right _ (List.mem_append_left _ (List.mem_of_getElem? (i := 204) rfl)))), by decide +kernel⟩
theorem tw_t685 : tw (Jvm.Cond.selects "TestEmitter" ({ cls := "TestEmitter", name := "at", desc := "(I)I" } : Jvm.MethodName) ({ cls := "TestEmitter", name := "at", desc := "(I)I" } : Jvm.MethodName)) := ⟨List.mem_append_right _ (List.mem_append_right _ (List.mem_append_right _ (List.mem_append_left _ (List.mem_of_getElem? (i := 205) rfl)))), by decide +kernel⟩
theorem tw_t686 : tw (Jvm.Cond.code ({ cls := "TestEmitter", name := "at", desc := "(I)I" } : Jvm.MethodName) prog_1_method_13_code (2 : Nat) (Option.some Jvm.ClassFile.FieldType.int)) := ⟨List.mem_append_right _ (List.mem_append_right _ (List.mem_append_right _ (List.mem_append_left _ (List.mem_of_getElem? (i := 206) rfl)))), by decide +kernel⟩
theorem tw_t687 : tw (Jvm.Cond.methodLink "TestEmitter" (149 : Nat) ({ cls := "TestEmitter$Text", name := "get", desc := "(I)I" } : Jvm.MethodName)) := ⟨List.mem_append_right _ (List.mem_append_right _ (List.mem_append_right _ (List.mem_append_left _ (List.mem_of_getElem? (i := 207) rfl)))), by decide +kernel⟩
theorem tw_t688 : tw (Jvm.Cond.instanceMethod ({ cls := "TestEmitter$Text", name := "get", desc := "(I)I" } : Jvm.MethodName)) := ⟨List.mem_append_right _ (List.mem_append_right _ (List.mem_append_right _ (List.mem_append_left _ (List.mem_of_getElem? (i := 208) rfl)))), by decide +kernel⟩
theorem tw_t689 : tw (Jvm.Cond.selects "TestEmitter$Text" ({ cls := "TestEmitter$Text", name := "get", desc := "(I)I" } : Jvm.MethodName) ({ cls := "TestEmitter$Text", name := "get", desc := "(I)I" } : Jvm.MethodName)) := ⟨List.mem_append_right _ (List.mem_append_right _ (List.mem_append_right _ (List.mem_append_left _ (List.mem_of_getElem? (i := 209) rfl)))), by decide +kernel⟩
theorem tw_t690 : tw (Jvm.Cond.code ({ cls := "TestEmitter$Text", name := "get", desc := "(I)I" } : Jvm.MethodName) prog_6_method_6_code (2 : Nat) (Option.some Jvm.ClassFile.FieldType.int)) := ⟨List.mem_append_right _ (List.mem_append_right _ (List.mem_append_right _ (List.mem_append_left _ (List.mem_of_getElem? (i := 210) rfl)))), by decide +kernel⟩
theorem tw_t691 : tw (Jvm.Cond.methodLink "TestEmitterLaw" (71 : Nat) ({ cls := "TestEmitter", name := "line", desc := "(I)I" } : Jvm.MethodName)) := ⟨List.mem_append_right _ (List.mem_append_right _ (List.mem_append_right _ (List.mem_append_left _ (List.mem_of_getElem? (i := 211) rfl)))), by decide +kernel⟩
theorem tw_t692 : tw (Jvm.Cond.instanceMethod ({ cls := "TestEmitter", name := "line", desc := "(I)I" } : Jvm.MethodName)) := ⟨List.mem_append_right _ (List.mem_append_right _ (List.mem_append_right _ (List.mem_append_left _ (List.mem_of_getElem? (i := 212) rfl)))), by decide +kernel⟩
theorem tw_t693 : tw (Jvm.Cond.selects "TestEmitter" ({ cls := "TestEmitter", name := "line", desc := "(I)I" } : Jvm.MethodName) ({ cls := "TestEmitter", name := "line", desc := "(I)I" } : Jvm.MethodName)) := ⟨List.mem_append_right _ (List.mem_append_right _ (List.mem_append_right _ (List.mem_append_left _ (List.mem_of_getElem? (i := 213) rfl)))), by decide +kernel⟩
theorem tw_t694 : tw (Jvm.Cond.code ({ cls := "TestEmitter", name := "line", desc := "(I)I" } : Jvm.MethodName) prog_1_method_14_code (2 : Nat) (Option.some Jvm.ClassFile.FieldType.int)) := ⟨List.mem_append_right _ (List.mem_append_right _ (List.mem_append_right _ (List.mem_append_left _ (List.mem_of_getElem? (i := 214) rfl)))), by decide +kernel⟩
theorem tw_t695 : tw (Jvm.Cond.methodLink "TestEmitter" (153 : Nat) ({ cls := "TestEmitter$Text", name := "startOf", desc := "(I)I" } : Jvm.MethodName)) := ⟨List.mem_append_right _ (List.mem_append_right _ (List.mem_append_right _ (List.mem_append_left _ (List.mem_of_getElem? (i := 215) rfl)))), by decide +kernel⟩
theorem tw_t696 : tw (Jvm.Cond.instanceMethod ({ cls := "TestEmitter$Text", name := "startOf", desc := "(I)I" } : Jvm.MethodName)) := ⟨List.mem_append_right _ (List.mem_append_right _ (List.mem_append_right _ (List.mem_append_left _ (List.mem_of_getElem? (i := 216) rfl)))), by decide +kernel⟩
theorem tw_t697 : tw (Jvm.Cond.selects "TestEmitter$Text" ({ cls := "TestEmitter$Text", name := "startOf", desc := "(I)I" } : Jvm.MethodName) ({ cls := "TestEmitter$Text", name := "startOf", desc := "(I)I" } : Jvm.MethodName)) := ⟨List.mem_append_right _ (List.mem_append_right _ (List.mem_append_right _ (List.mem_append_left _ (List.mem_of_getElem? (i := 217) rfl)))), by decide +kernel⟩
theorem tw_t698 : tw (Jvm.Cond.code ({ cls := "TestEmitter$Text", name := "startOf", desc := "(I)I" } : Jvm.MethodName) prog_6_method_7_code (2 : Nat) (Option.some Jvm.ClassFile.FieldType.int)) := ⟨List.mem_append_right _ (List.mem_append_right _ (List.mem_append_right _ (List.mem_append_left _ (List.mem_of_getElem? (i := 218) rfl)))), by decide +kernel⟩
theorem tw_t699 : tw (Jvm.Cond.methodLink "TestEmitterLaw" (75 : Nat) ({ cls := "TestEmitter", name := "count", desc := "(I)I" } : Jvm.MethodName)) := ⟨List.mem_append_right _ (List.mem_append_right _ (List.mem_append_right _ (List.mem_append_left _ (List.mem_of_getElem? (i := 219) rfl)))), by decide +kernel⟩
theorem tw_t700 : tw (Jvm.Cond.instanceMethod ({ cls := "TestEmitter", name := "count", desc := "(I)I" } : Jvm.MethodName)) := ⟨List.mem_append_right _ (List.mem_append_right _ (List.mem_append_right _ (List.mem_append_left _ (List.mem_of_getElem? (i := 220) rfl)))), by decide +kernel⟩
theorem tw_t701 : tw (Jvm.Cond.selects "TestEmitter" ({ cls := "TestEmitter", name := "count", desc := "(I)I" } : Jvm.MethodName) ({ cls := "TestEmitter", name := "count", desc := "(I)I" } : Jvm.MethodName)) := ⟨List.mem_append_right _ (List.mem_append_right _ (List.mem_append_right _ (List.mem_append_left _ (List.mem_of_getElem? (i := 221) rfl)))), by decide +kernel⟩
theorem tw_t702 : tw (Jvm.Cond.code ({ cls := "TestEmitter", name := "count", desc := "(I)I" } : Jvm.MethodName) prog_1_method_15_code (2 : Nat) (Option.some Jvm.ClassFile.FieldType.int)) := ⟨List.mem_append_right _ (List.mem_append_right _ (List.mem_append_right _ (List.mem_append_left _ (List.mem_of_getElem? (i := 222) rfl)))), by decide +kernel⟩
theorem tw_t703 : tw (Jvm.Cond.methodLink "TestEmitter" (156 : Nat) ({ cls := "TestEmitter$Text", name := "lines", desc := "()I" } : Jvm.MethodName)) := ⟨List.mem_append_right _ (List.mem_append_right _ (List.mem_append_right _ (List.mem_append_left _ (List.mem_of_getElem? (i := 223) rfl)))), by decide +kernel⟩
theorem tw_t704 : tw (Jvm.Cond.instanceMethod ({ cls := "TestEmitter$Text", name := "lines", desc := "()I" } : Jvm.MethodName)) := ⟨List.mem_append_right _ (List.mem_append_right _ (List.mem_append_right _ (List.mem_append_left _ (List.mem_of_getElem? (i := 224) rfl)))), by decide +kernel⟩
theorem tw_t705 : tw (Jvm.Cond.selects "TestEmitter$Text" ({ cls := "TestEmitter$Text", name := "lines", desc := "()I" } : Jvm.MethodName) ({ cls := "TestEmitter$Text", name := "lines", desc := "()I" } : Jvm.MethodName)) := ⟨List.mem_append_right _ (List.mem_append_right _ (List.mem_append_right _ (List.mem_append_left _ (List.mem_of_getElem? (i := 225) rfl)))), by decide +kernel⟩
theorem tw_t706 : tw (Jvm.Cond.code ({ cls := "TestEmitter$Text", name := "lines", desc := "()I" } : Jvm.MethodName) prog_6_method_3_code (1 : Nat) (Option.some Jvm.ClassFile.FieldType.int)) := ⟨List.mem_append_right _ (List.mem_append_right _ (List.mem_append_right _ (List.mem_append_left _ (List.mem_of_getElem? (i := 226) rfl)))), by decide +kernel⟩
theorem tw_t707 : tw (Jvm.Cond.methodLink "TestEmitter" (159 : Nat) ({ cls := "TestEmitter$Text", name := "longest", desc := "()I" } : Jvm.MethodName)) := ⟨List.mem_append_right _ (List.mem_append_right _ (List.mem_append_right _ (List.mem_append_left _ (List.mem_of_getElem? (i := 227) rfl)))), by decide +kernel⟩
theorem tw_t708 : tw (Jvm.Cond.instanceMethod ({ cls := "TestEmitter$Text", name := "longest", desc := "()I" } : Jvm.MethodName)) := ⟨List.mem_append_right _ (List.mem_append_right _ (List.mem_append_right _ (List.mem_append_left _ (List.mem_of_getElem? (i := 228) rfl)))), by decide +kernel⟩
theorem tw_t709 : tw (Jvm.Cond.selects "TestEmitter$Text" ({ cls := "TestEmitter$Text", name := "longest", desc := "()I" } : Jvm.MethodName) ({ cls := "TestEmitter$Text", name := "longest", desc := "()I" } : Jvm.MethodName)) := ⟨List.mem_append_right _ (List.mem_append_right _ (List.mem_append_right _ (List.mem_append_left _ (List.mem_of_getElem? (i := 229) rfl)))), by decide +kernel⟩
theorem tw_t710 : tw (Jvm.Cond.code ({ cls := "TestEmitter$Text", name := "longest", desc := "()I" } : Jvm.MethodName) prog_6_method_4_code (1 : Nat) (Option.some Jvm.ClassFile.FieldType.int)) := ⟨List.mem_append_right _ (List.mem_append_right _ (List.mem_append_right _ (List.mem_append_left _ (List.mem_of_getElem? (i := 230) rfl)))), by decide +kernel⟩
theorem tw_t711 : tw (Jvm.Cond.methodLink "TestEmitter" (162 : Nat) ({ cls := "TestEmitter$Text", name := "broken", desc := "()I" } : Jvm.MethodName)) := ⟨List.mem_append_right _ (List.mem_append_right _ (List.mem_append_right _ (List.mem_append_left _ (List.mem_of_getElem? (i := 231) rfl)))), by decide +kernel⟩
theorem tw_t712 : tw (Jvm.Cond.instanceMethod ({ cls := "TestEmitter$Text", name := "broken", desc := "()I" } : Jvm.MethodName)) := ⟨List.mem_append_right _ (List.mem_append_right _ (List.mem_append_right _ (List.mem_append_left _ (List.mem_of_getElem? (i := 232) rfl)))), by decide +kernel⟩
theorem tw_t713 : tw (Jvm.Cond.selects "TestEmitter$Text" ({ cls := "TestEmitter$Text", name := "broken", desc := "()I" } : Jvm.MethodName) ({ cls := "TestEmitter$Text", name := "broken", desc := "()I" } : Jvm.MethodName)) := ⟨List.mem_append_right _ (List.mem_append_right _ (List.mem_append_right _ (List.mem_append_left _ (List.mem_of_getElem? (i := 233) rfl)))), by decide +kernel⟩
theorem tw_t714 : tw (Jvm.Cond.code ({ cls := "TestEmitter$Text", name := "broken", desc := "()I" } : Jvm.MethodName) prog_6_method_5_code (1 : Nat) (Option.some Jvm.ClassFile.FieldType.int)) := ⟨List.mem_append_right _ (List.mem_append_right _ (List.mem_append_right _ (List.mem_append_left _ (List.mem_of_getElem? (i := 234) rfl)))), by decide +kernel⟩
theorem tw_t715 : tw (Jvm.Cond.methodLink "TestEmitter" (165 : Nat) ({ cls := "TestEmitter$Suite", name := "thrown", desc := "()I" } : Jvm.MethodName)) := ⟨List.mem_append_right _ (List.mem_append_right _ (List.mem_append_right _ (List.mem_append_left _ (List.mem_of_getElem? (i := 235) rfl)))), by decide +kernel⟩
theorem tw_t716 : tw (Jvm.Cond.instanceMethod ({ cls := "TestEmitter$Suite", name := "thrown", desc := "()I" } : Jvm.MethodName)) := ⟨List.mem_append_right _ (List.mem_append_right _ (List.mem_append_right _ (List.mem_append_left _ (List.mem_of_getElem? (i := 236) rfl)))), by decide +kernel⟩
theorem tw_t717 : tw (Jvm.Cond.selects "TestEmitter$Suite" ({ cls := "TestEmitter$Suite", name := "thrown", desc := "()I" } : Jvm.MethodName) ({ cls := "TestEmitter$Suite", name := "thrown", desc := "()I" } : Jvm.MethodName)) := ⟨List.mem_append_right _ (List.mem_append_right _ (List.mem_append_right _ (List.mem_append_left _ (List.mem_of_getElem? (i := 237) rfl)))), by decide +kernel⟩
theorem tw_t718 : tw (Jvm.Cond.code ({ cls := "TestEmitter$Suite", name := "thrown", desc := "()I" } : Jvm.MethodName) prog_5_method_3_code (1 : Nat) (Option.some Jvm.ClassFile.FieldType.int)) := ⟨List.mem_append_right _ (List.mem_append_right _ (List.mem_append_right _ (List.mem_append_left _ (List.mem_of_getElem? (i := 238) rfl)))), by decide +kernel⟩
theorem tw_t719 : tw (Jvm.Cond.methodLink "TestEmitterLaw" (9 : Nat) ({ cls := "TestEmitterLaw", name := "cell", desc := "([II)I" } : Jvm.MethodName)) := ⟨List.mem_append_right _ (List.mem_append_right _ (List.mem_append_right _ (List.mem_append_left _ (List.mem_of_getElem? (i := 239) rfl)))), by decide +kernel⟩
theorem tw_t720 : tw (Jvm.Cond.static ({ cls := "TestEmitterLaw", name := "cell", desc := "([II)I" } : Jvm.MethodName)) := ⟨List.mem_append_right _ (List.mem_append_right _ (List.mem_append_right _ (List.mem_append_right _ (List.mem_append_left _ (List.mem_of_getElem? (i := 0) rfl))))), by decide +kernel⟩
theorem tw_t721 : tw (Jvm.Cond.code ({ cls := "TestEmitterLaw", name := "cell", desc := "([II)I" } : Jvm.MethodName) method_2_code (2 : Nat) (Option.some Jvm.ClassFile.FieldType.int)) := ⟨List.mem_append_right _ (List.mem_append_right _ (List.mem_append_right _ (List.mem_append_right _ (List.mem_append_left _ (List.mem_of_getElem? (i := 1) rfl))))), by decide +kernel⟩
theorem tw_t722 : tw (Jvm.Cond.classLink "TestEmitterLaw" (18 : Nat) "TestEmitterModel") := ⟨List.mem_append_right _ (List.mem_append_right _ (List.mem_append_right _ (List.mem_append_right _ (List.mem_append_left _ (List.mem_of_getElem? (i := 2) rfl))))), by decide +kernel⟩
theorem tw_t723 : tw (Jvm.Cond.instantiable "TestEmitterModel" (25 : Nat)) := ⟨List.mem_append_right _ (List.mem_append_right _ (List.mem_append_right _ (List.mem_append_right _ (List.mem_append_left _ (List.mem_of_getElem? (i := 3) rfl))))), by decide +kernel⟩
theorem tw_t724 : tw (Jvm.Cond.methodLink "TestEmitterLaw" (20 : Nat) ({ cls := "TestEmitterModel", name := "<init>", desc := "(I)V" } : Jvm.MethodName)) := ⟨List.mem_append_right _ (List.mem_append_right _ (List.mem_append_right _ (List.mem_append_right _ (List.mem_append_left _ (List.mem_of_getElem? (i := 4) rfl))))), by decide +kernel⟩
theorem tw_t725 : tw (Jvm.Cond.instanceMethod ({ cls := "TestEmitterModel", name := "<init>", desc := "(I)V" } : Jvm.MethodName)) := ⟨List.mem_append_right _ (List.mem_append_right _ (List.mem_append_right _ (List.mem_append_right _ (List.mem_append_left _ (List.mem_of_getElem? (i := 5) rfl))))), by decide +kernel⟩
theorem tw_t726 : tw (Jvm.Cond.code ({ cls := "TestEmitterModel", name := "<init>", desc := "(I)V" } : Jvm.MethodName) prog_10_method_1_code (2 : Nat) (Option.none : Option Jvm.ClassFile.FieldType)) := ⟨List.mem_append_right _ (List.mem_append_right _ (List.mem_append_right _ (List.mem_append_right _ (List.mem_append_left _ (List.mem_of_getElem? (i := 6) rfl))))), by decide +kernel⟩
theorem tw_t727 : tw (Jvm.Cond.methodLink "TestEmitterModel" (1 : Nat) ({ cls := "java/lang/Object", name := "<init>", desc := "()V" } : Jvm.MethodName)) := ⟨List.mem_append_right _ (List.mem_append_right _ (List.mem_append_right _ (List.mem_append_right _ (List.mem_append_left _ (List.mem_of_getElem? (i := 7) rfl))))), by decide +kernel⟩
theorem tw_t728 : tw (Jvm.Cond.fieldLink "TestEmitterModel" (86 : Nat) "TestEmitterModel" "width" "I") := ⟨List.mem_append_right _ (List.mem_append_right _ (List.mem_append_right _ (List.mem_append_right _ (List.mem_append_left _ (List.mem_of_getElem? (i := 8) rfl))))), by decide +kernel⟩
theorem tw_t729 : tw (Jvm.Cond.fieldLink "TestEmitterModel" (7 : Nat) "TestEmitterModel" "typed" "I") := ⟨List.mem_append_right _ (List.mem_append_right _ (List.mem_append_right _ (List.mem_append_right _ (List.mem_append_left _ (List.mem_of_getElem? (i := 9) rfl))))), by decide +kernel⟩
theorem tw_t730 : tw (Jvm.Cond.fieldLink "TestEmitterModel" (13 : Nat) "TestEmitterModel" "many" "I") := ⟨List.mem_append_right _ (List.mem_append_right _ (List.mem_append_right _ (List.mem_append_right _ (List.mem_append_left _ (List.mem_of_getElem? (i := 10) rfl))))), by decide +kernel⟩
theorem tw_t731 : tw (Jvm.Cond.fieldLink "TestEmitterModel" (16 : Nat) "TestEmitterModel" "tests" "I") := ⟨List.mem_append_right _ (List.mem_append_right _ (List.mem_append_right _ (List.mem_append_right _ (List.mem_append_left _ (List.mem_of_getElem? (i := 11) rfl))))), by decide +kernel⟩
theorem tw_t732 : tw (Jvm.Cond.fieldLink "TestEmitterModel" (19 : Nat) "TestEmitterModel" "used" "I") := ⟨List.mem_append_right _ (List.mem_append_right _ (List.mem_append_right _ (List.mem_append_right _ (List.mem_append_left _ (List.mem_of_getElem? (i := 12) rfl))))), by decide +kernel⟩
theorem tw_t733 : tw (Jvm.Cond.fieldLink "TestEmitterModel" (22 : Nat) "TestEmitterModel" "took" "I") := ⟨List.mem_append_right _ (List.mem_append_right _ (List.mem_append_right _ (List.mem_append_right _ (List.mem_append_left _ (List.mem_of_getElem? (i := 13) rfl))))), by decide +kernel⟩
theorem tw_t734 : tw (Jvm.Cond.fieldLink "TestEmitterModel" (25 : Nat) "TestEmitterModel" "size" "I") := ⟨List.mem_append_right _ (List.mem_append_right _ (List.mem_append_right _ (List.mem_append_right _ (List.mem_append_left _ (List.mem_of_getElem? (i := 14) rfl))))), by decide +kernel⟩
theorem tw_t735 : tw (Jvm.Cond.fieldLink "TestEmitterModel" (28 : Nat) "TestEmitterModel" "lines" "I") := ⟨List.mem_append_right _ (List.mem_append_right _ (List.mem_append_right _ (List.mem_append_right _ (List.mem_append_left _ (List.mem_of_getElem? (i := 15) rfl))))), by decide +kernel⟩
theorem tw_t736 : tw (Jvm.Cond.fieldLink "TestEmitterModel" (31 : Nat) "TestEmitterModel" "longest" "I") := ⟨List.mem_append_right _ (List.mem_append_right _ (List.mem_append_right _ (List.mem_append_right _ (List.mem_append_left _ (List.mem_of_getElem? (i := 16) rfl))))), by decide +kernel⟩
theorem tw_t737 : tw (Jvm.Cond.fieldLink "TestEmitterModel" (34 : Nat) "TestEmitterModel" "added" "I") := ⟨List.mem_append_right _ (List.mem_append_right _ (List.mem_append_right _ (List.mem_append_right _ (List.mem_append_left _ (List.mem_of_getElem? (i := 17) rfl))))), by decide +kernel⟩
theorem tw_t738 : tw (Jvm.Cond.fieldLink "TestEmitterModel" (37 : Nat) "TestEmitterModel" "line" "[C") := ⟨List.mem_append_right _ (List.mem_append_right _ (List.mem_append_right _ (List.mem_append_right _ (List.mem_append_left _ (List.mem_of_getElem? (i := 18) rfl))))), by decide +kernel⟩
theorem tw_t739 : tw (Jvm.Cond.fieldLink "TestEmitterModel" (41 : Nat) "TestEmitterModel" "types" "[C") := ⟨List.mem_append_right _ (List.mem_append_right _ (List.mem_append_right _ (List.mem_append_right _ (List.mem_append_left _ (List.mem_of_getElem? (i := 19) rfl))))), by decide +kernel⟩
theorem tw_t740 : tw (Jvm.Cond.fieldLink "TestEmitterModel" (44 : Nat) "TestEmitterModel" "typeSize" "[I") := ⟨List.mem_append_right _ (List.mem_append_right _ (List.mem_append_right _ (List.mem_append_right _ (List.mem_append_left _ (List.mem_of_getElem? (i := 20) rfl))))), by decide +kernel⟩
theorem tw_t741 : tw (Jvm.Cond.fieldLink "TestEmitterModel" (48 : Nat) "TestEmitterModel" "data" "[I") := ⟨List.mem_append_right _ (List.mem_append_right _ (List.mem_append_right _ (List.mem_append_right _ (List.mem_append_left _ (List.mem_of_getElem? (i := 21) rfl))))), by decide +kernel⟩
theorem tw_t742 : tw (Jvm.Cond.fieldLink "TestEmitterModel" (51 : Nat) "TestEmitterModel" "bodies" "[I") := ⟨List.mem_append_right _ (List.mem_append_right _ (List.mem_append_right _ (List.mem_append_right _ (List.mem_append_left _ (List.mem_of_getElem? (i := 22) rfl))))), by decide +kernel⟩
theorem tw_t743 : tw (Jvm.Cond.fieldLink "TestEmitterModel" (54 : Nat) "TestEmitterModel" "text" "[I") := ⟨List.mem_append_right _ (List.mem_append_right _ (List.mem_append_right _ (List.mem_append_right _ (List.mem_append_left _ (List.mem_of_getElem? (i := 23) rfl))))), by decide +kernel⟩
theorem tw_t744 : tw (Jvm.Cond.fieldLink "TestEmitterModel" (57 : Nat) "TestEmitterModel" "bodySize" "[I") := ⟨List.mem_append_right _ (List.mem_append_right _ (List.mem_append_right _ (List.mem_append_right _ (List.mem_append_left _ (List.mem_of_getElem? (i := 24) rfl))))), by decide +kernel⟩
theorem tw_t745 : tw (Jvm.Cond.fieldLink "TestEmitterModel" (60 : Nat) "TestEmitterModel" "thrown" "[Z") := ⟨List.mem_append_right _ (List.mem_append_right _ (List.mem_append_right _ (List.mem_append_right _ (List.mem_append_left _ (List.mem_of_getElem? (i := 25) rfl))))), by decide +kernel⟩
theorem tw_t746 : tw (Jvm.Cond.fieldLink "TestEmitterModel" (64 : Nat) "TestEmitterModel" "part" "[C") := ⟨List.mem_append_right _ (List.mem_append_right _ (List.mem_append_right _ (List.mem_append_right _ (List.mem_append_left _ (List.mem_of_getElem? (i := 26) rfl))))), by decide +kernel⟩
theorem tw_t747 : tw (Jvm.Cond.fieldLink "TestEmitterModel" (67 : Nat) "TestEmitterModel" "partSize" "[I") := ⟨List.mem_append_right _ (List.mem_append_right _ (List.mem_append_right _ (List.mem_append_right _ (List.mem_append_left _ (List.mem_of_getElem? (i := 27) rfl))))), by decide +kernel⟩
theorem tw_t748 : tw (Jvm.Cond.fieldLink "TestEmitterModel" (70 : Nat) "TestEmitterModel" "into" "I") := ⟨List.mem_append_right _ (List.mem_append_right _ (List.mem_append_right _ (List.mem_append_right _ (List.mem_append_left _ (List.mem_of_getElem? (i := 28) rfl))))), by decide +kernel⟩
theorem tw_t749 : tw (Jvm.Cond.fieldLink "TestEmitterModel" (73 : Nat) "TestEmitterModel" "around" "I") := ⟨List.mem_append_right _ (List.mem_append_right _ (List.mem_append_right _ (List.mem_append_right _ (List.mem_append_left _ (List.mem_of_getElem? (i := 29) rfl))))), by decide +kernel⟩
theorem tw_t750 : tw (Jvm.Cond.fieldLink "TestEmitterModel" (76 : Nat) "TestEmitterModel" "todo" "[I") := ⟨List.mem_append_right _ (List.mem_append_right _ (List.mem_append_right _ (List.mem_append_right _ (List.mem_append_left _ (List.mem_of_getElem? (i := 30) rfl))))), by decide +kernel⟩
theorem tw_t751 : tw (Jvm.Cond.fieldLink "TestEmitterModel" (79 : Nat) "TestEmitterModel" "left" "I") := ⟨List.mem_append_right _ (List.mem_append_right _ (List.mem_append_right _ (List.mem_append_right _ (List.mem_append_left _ (List.mem_of_getElem? (i := 31) rfl))))), by decide +kernel⟩
theorem tw_t752 : tw (Jvm.Cond.fieldLink "TestEmitterModel" (82 : Nat) "TestEmitterModel" "isNull" "Z") := ⟨List.mem_append_right _ (List.mem_append_right _ (List.mem_append_right _ (List.mem_append_right _ (List.mem_append_left _ (List.mem_of_getElem? (i := 32) rfl))))), by decide +kernel⟩
theorem tw_t753 : tw (Jvm.Cond.laysFinal "TestEmitterModel" "TestEmitterModel" "width" "I") := ⟨List.mem_append_right _ (List.mem_append_right _ (List.mem_append_right _ (List.mem_append_right _ (List.mem_append_left _ (List.mem_of_getElem? (i := 33) rfl))))), by decide +kernel⟩
theorem tw_t755 : tw (Jvm.Cond.lays "TestEmitterModel" "TestEmitterModel" "typed" "I") := ⟨List.mem_append_right _ (List.mem_append_right _ (List.mem_append_right _ (List.mem_append_right _ (List.mem_append_left _ (List.mem_of_getElem? (i := 35) rfl))))), by decide +kernel⟩
theorem tw_t757 : tw (Jvm.Cond.lays "TestEmitterModel" "TestEmitterModel" "many" "I") := ⟨List.mem_append_right _ (List.mem_append_right _ (List.mem_append_right _ (List.mem_append_right _ (List.mem_append_left _ (List.mem_of_getElem? (i := 37) rfl))))), by decide +kernel⟩
theorem tw_t759 : tw (Jvm.Cond.lays "TestEmitterModel" "TestEmitterModel" "tests" "I") := ⟨List.mem_append_right _ (List.mem_append_right _ (List.mem_append_right _ (List.mem_append_right _ (List.mem_append_left _ (List.mem_of_getElem? (i := 39) rfl))))), by decide +kernel⟩
theorem tw_t761 : tw (Jvm.Cond.lays "TestEmitterModel" "TestEmitterModel" "used" "I") := ⟨List.mem_append_right _ (List.mem_append_right _ (List.mem_append_right _ (List.mem_append_right _ (List.mem_append_left _ (List.mem_of_getElem? (i := 41) rfl))))), by decide +kernel⟩
theorem tw_t763 : tw (Jvm.Cond.lays "TestEmitterModel" "TestEmitterModel" "took" "I") := ⟨List.mem_append_right _ (List.mem_append_right _ (List.mem_append_right _ (List.mem_append_right _ (List.mem_append_left _ (List.mem_of_getElem? (i := 43) rfl))))), by decide +kernel⟩
theorem tw_t765 : tw (Jvm.Cond.lays "TestEmitterModel" "TestEmitterModel" "size" "I") := ⟨List.mem_append_right _ (List.mem_append_right _ (List.mem_append_right _ (List.mem_append_right _ (List.mem_append_left _ (List.mem_of_getElem? (i := 45) rfl))))), by decide +kernel⟩
theorem tw_t767 : tw (Jvm.Cond.lays "TestEmitterModel" "TestEmitterModel" "lines" "I") := ⟨List.mem_append_right _ (List.mem_append_right _ (List.mem_append_right _ (List.mem_append_right _ (List.mem_append_left _ (List.mem_of_getElem? (i := 47) rfl))))), by decide +kernel⟩
theorem tw_t769 : tw (Jvm.Cond.lays "TestEmitterModel" "TestEmitterModel" "longest" "I") := ⟨List.mem_append_right _ (List.mem_append_right _ (List.mem_append_right _ (List.mem_append_right _ (List.mem_append_left _ (List.mem_of_getElem? (i := 49) rfl))))), by decide +kernel⟩
theorem tw_t771 : tw (Jvm.Cond.lays "TestEmitterModel" "TestEmitterModel" "added" "I") := ⟨List.mem_append_right _ (List.mem_append_right _ (List.mem_append_right _ (List.mem_append_right _ (List.mem_append_left _ (List.mem_of_getElem? (i := 51) rfl))))), by decide +kernel⟩
theorem tw_t773 : tw (Jvm.Cond.laysFinal "TestEmitterModel" "TestEmitterModel" "line" "[C") := ⟨List.mem_append_right _ (List.mem_append_right _ (List.mem_append_right _ (List.mem_append_right _ (List.mem_append_left _ (List.mem_of_getElem? (i := 53) rfl))))), by decide +kernel⟩
theorem tw_t775 : tw (Jvm.Cond.laysFinal "TestEmitterModel" "TestEmitterModel" "types" "[C") := ⟨List.mem_append_right _ (List.mem_append_right _ (List.mem_append_right _ (List.mem_append_right _ (List.mem_append_left _ (List.mem_of_getElem? (i := 55) rfl))))), by decide +kernel⟩
theorem tw_t777 : tw (Jvm.Cond.laysFinal "TestEmitterModel" "TestEmitterModel" "typeSize" "[I") := ⟨List.mem_append_right _ (List.mem_append_right _ (List.mem_append_right _ (List.mem_append_right _ (List.mem_append_left _ (List.mem_of_getElem? (i := 57) rfl))))), by decide +kernel⟩
theorem tw_t779 : tw (Jvm.Cond.laysFinal "TestEmitterModel" "TestEmitterModel" "data" "[I") := ⟨List.mem_append_right _ (List.mem_append_right _ (List.mem_append_right _ (List.mem_append_right _ (List.mem_append_left _ (List.mem_of_getElem? (i := 59) rfl))))), by decide +kernel⟩
theorem tw_t781 : tw (Jvm.Cond.laysFinal "TestEmitterModel" "TestEmitterModel" "bodies" "[I") := ⟨List.mem_append_right _ (List.mem_append_right _ (List.mem_append_right _ (List.mem_append_right _ (List.mem_append_left _ (List.mem_of_getElem? (i := 61) rfl))))), by decide +kernel⟩
theorem tw_t783 : tw (Jvm.Cond.laysFinal "TestEmitterModel" "TestEmitterModel" "text" "[I") := ⟨List.mem_append_right _ (List.mem_append_right _ (List.mem_append_right _ (List.mem_append_right _ (List.mem_append_left _ (List.mem_of_getElem? (i := 63) rfl))))), by decide +kernel⟩
theorem tw_t785 : tw (Jvm.Cond.laysFinal "TestEmitterModel" "TestEmitterModel" "bodySize" "[I") := ⟨List.mem_append_right _ (List.mem_append_right _ (List.mem_append_right _ (List.mem_append_right _ (List.mem_append_left _ (List.mem_of_getElem? (i := 65) rfl))))), by decide +kernel⟩
theorem tw_t787 : tw (Jvm.Cond.laysFinal "TestEmitterModel" "TestEmitterModel" "thrown" "[Z") := ⟨List.mem_append_right _ (List.mem_append_right _ (List.mem_append_right _ (List.mem_append_right _ (List.mem_append_left _ (List.mem_of_getElem? (i := 67) rfl))))), by decide +kernel⟩
theorem tw_t789 : tw (Jvm.Cond.laysFinal "TestEmitterModel" "TestEmitterModel" "part" "[C") := ⟨List.mem_append_right _ (List.mem_append_right _ (List.mem_append_right _ (List.mem_append_right _ (List.mem_append_left _ (List.mem_of_getElem? (i := 69) rfl))))), by decide +kernel⟩
theorem tw_t791 : tw (Jvm.Cond.laysFinal "TestEmitterModel" "TestEmitterModel" "partSize" "[I") := ⟨List.mem_append_right _ (List.mem_append_right _ (List.mem_append_right _ (List.mem_append_right _ (List.mem_append_left _ (List.mem_of_getElem? (i := 71) rfl))))), by decide +kernel⟩
theorem tw_t793 : tw (Jvm.Cond.lays "TestEmitterModel" "TestEmitterModel" "into" "I") := ⟨List.mem_append_right _ (List.mem_append_right _ (List.mem_append_right _ (List.mem_append_right _ (List.mem_append_left _ (List.mem_of_getElem? (i := 73) rfl))))), by decide +kernel⟩
theorem tw_t795 : tw (Jvm.Cond.lays "TestEmitterModel" "TestEmitterModel" "around" "I") := ⟨List.mem_append_right _ (List.mem_append_right _ (List.mem_append_right _ (List.mem_append_right _ (List.mem_append_left _ (List.mem_of_getElem? (i := 75) rfl))))), by decide +kernel⟩
theorem tw_t797 : tw (Jvm.Cond.laysFinal "TestEmitterModel" "TestEmitterModel" "todo" "[I") := ⟨List.mem_append_right _ (List.mem_append_right _ (List.mem_append_right _ (List.mem_append_right _ (List.mem_append_left _ (List.mem_of_getElem? (i := 77) rfl))))), by decide +kernel⟩
theorem tw_t799 : tw (Jvm.Cond.lays "TestEmitterModel" "TestEmitterModel" "left" "I") := ⟨List.mem_append_right _ (List.mem_append_right _ (List.mem_append_right _ (List.mem_append_right _ (List.mem_append_left _ (List.mem_of_getElem? (i := 79) rfl))))), by decide +kernel⟩
theorem tw_t801 : tw (Jvm.Cond.lays "TestEmitterModel" "TestEmitterModel" "isNull" "Z") := ⟨List.mem_append_right _ (List.mem_append_right _ (List.mem_append_right _ (List.mem_append_right _ (List.mem_append_left _ (List.mem_of_getElem? (i := 81) rfl))))), by decide +kernel⟩
theorem tw_t804 : tw (Jvm.Cond.arrayClass Jvm.ClassFile.FieldType.boolean) := ⟨List.mem_append_right _ (List.mem_append_right _ (List.mem_append_right _ (List.mem_append_right _ (List.mem_append_left _ (List.mem_of_getElem? (i := 84) rfl))))), by decide +kernel⟩
theorem tw_t805 : tw (Jvm.Cond.methodLink "TestEmitterLaw" (25 : Nat) ({ cls := "TestEmitterModel", name := "type", desc := "(I)I" } : Jvm.MethodName)) := ⟨List.mem_append_right _ (List.mem_append_right _ (List.mem_append_right _ (List.mem_append_right _ (List.mem_append_left _ (List.mem_of_getElem? (i := 85) rfl))))), by decide +kernel⟩
theorem tw_t806 : tw (Jvm.Cond.instanceMethod ({ cls := "TestEmitterModel", name := "type", desc := "(I)I" } : Jvm.MethodName)) := ⟨List.mem_append_right _ (List.mem_append_right _ (List.mem_append_right _ (List.mem_append_right _ (List.mem_append_left _ (List.mem_of_getElem? (i := 86) rfl))))), by decide +kernel⟩
theorem tw_t807 : tw (Jvm.Cond.selects "TestEmitterModel" ({ cls := "TestEmitterModel", name := "type", desc := "(I)I" } : Jvm.MethodName) ({ cls := "TestEmitterModel", name := "type", desc := "(I)I" } : Jvm.MethodName)) := ⟨List.mem_append_right _ (List.mem_append_right _ (List.mem_append_right _ (List.mem_append_right _ (List.mem_append_left _ (List.mem_of_getElem? (i := 87) rfl))))), by decide +kernel⟩
theorem tw_t808 : tw (Jvm.Cond.code ({ cls := "TestEmitterModel", name := "type", desc := "(I)I" } : Jvm.MethodName) prog_10_method_2_code (2 : Nat) (Option.some Jvm.ClassFile.FieldType.int)) := ⟨List.mem_append_right _ (List.mem_append_right _ (List.mem_append_right _ (List.mem_append_right _ (List.mem_append_left _ (List.mem_of_getElem? (i := 88) rfl))))), by decide +kernel⟩
theorem tw_t809 : tw (Jvm.Cond.methodLink "TestEmitterLaw" (29 : Nat) ({ cls := "TestEmitterModel", name := "fields", desc := "(I)I" } : Jvm.MethodName)) := ⟨List.mem_append_right _ (List.mem_append_right _ (List.mem_append_right _ (List.mem_append_right _ (List.mem_append_left _ (List.mem_of_getElem? (i := 89) rfl))))), by decide +kernel⟩
theorem tw_t810 : tw (Jvm.Cond.instanceMethod ({ cls := "TestEmitterModel", name := "fields", desc := "(I)I" } : Jvm.MethodName)) := ⟨List.mem_append_right _ (List.mem_append_right _ (List.mem_append_right _ (List.mem_append_right _ (List.mem_append_left _ (List.mem_of_getElem? (i := 90) rfl))))), by decide +kernel⟩
theorem tw_t811 : tw (Jvm.Cond.selects "TestEmitterModel" ({ cls := "TestEmitterModel", name := "fields", desc := "(I)I" } : Jvm.MethodName) ({ cls := "TestEmitterModel", name := "fields", desc := "(I)I" } : Jvm.MethodName)) := ⟨List.mem_append_right _ (List.mem_append_right _ (List.mem_append_right _ (List.mem_append_right _ (List.mem_append_left _ (List.mem_of_getElem? (i := 91) rfl))))), by decide +kernel⟩
theorem tw_t812 : tw (Jvm.Cond.code ({ cls := "TestEmitterModel", name := "fields", desc := "(I)I" } : Jvm.MethodName) prog_10_method_6_code (2 : Nat) (Option.some Jvm.ClassFile.FieldType.int)) := ⟨List.mem_append_right _ (List.mem_append_right _ (List.mem_append_right _ (List.mem_append_right _ (List.mem_append_left _ (List.mem_of_getElem? (i := 92) rfl))))), by decide +kernel⟩
theorem tw_t813 : tw (Jvm.Cond.methodLink "TestEmitterModel" (97 : Nat) ({ cls := "TestEmitterModel", name := "takeRow", desc := "(I)I" } : Jvm.MethodName)) := ⟨List.mem_append_right _ (List.mem_append_right _ (List.mem_append_right _ (List.mem_append_right _ (List.mem_append_left _ (List.mem_of_getElem? (i := 93) rfl))))), by decide +kernel⟩
theorem tw_t815 : tw (Jvm.Cond.instanceMethod ({ cls := "TestEmitterModel", name := "takeRow", desc := "(I)I" } : Jvm.MethodName)) := ⟨List.mem_append_right _ (List.mem_append_right _ (List.mem_append_right _ (List.mem_append_right _ (List.mem_append_left _ (List.mem_of_getElem? (i := 95) rfl))))), by decide +kernel⟩
theorem tw_t816 : tw (Jvm.Cond.code ({ cls := "TestEmitterModel", name := "takeRow", desc := "(I)I" } : Jvm.MethodName) prog_10_method_5_code (6 : Nat) (Option.some Jvm.ClassFile.FieldType.int)) := ⟨List.mem_append_right _ (List.mem_append_right _ (List.mem_append_right _ (List.mem_append_right _ (List.mem_append_left _ (List.mem_of_getElem? (i := 96) rfl))))), by decide +kernel⟩
theorem tw_t817 : tw (Jvm.Cond.methodLink "TestEmitterModel" (93 : Nat) ({ cls := "TestEmitterModel", name := "typeEnd", desc := "(I)I" } : Jvm.MethodName)) := ⟨List.mem_append_right _ (List.mem_append_right _ (List.mem_append_right _ (List.mem_append_right _ (List.mem_append_left _ (List.mem_of_getElem? (i := 97) rfl))))), by decide +kernel⟩
theorem tw_t819 : tw (Jvm.Cond.instanceMethod ({ cls := "TestEmitterModel", name := "typeEnd", desc := "(I)I" } : Jvm.MethodName)) := ⟨List.mem_append_right _ (List.mem_append_right _ (List.mem_append_right _ (List.mem_append_right _ (List.mem_append_left _ (List.mem_of_getElem? (i := 99) rfl))))), by decide +kernel⟩
theorem tw_t820 : tw (Jvm.Cond.code ({ cls := "TestEmitterModel", name := "typeEnd", desc := "(I)I" } : Jvm.MethodName) prog_10_method_4_code (3 : Nat) (Option.some Jvm.ClassFile.FieldType.int)) := ⟨List.mem_append_right _ (List.mem_append_right _ (List.mem_append_right _ (List.mem_append_right _ (List.mem_append_left _ (List.mem_of_getElem? (i := 100) rfl))))), by decide +kernel⟩
theorem tw_t821 : tw (Jvm.Cond.methodLink "TestEmitterModel" (89 : Nat) ({ cls := "TestEmitterModel", name := "plain", desc := "(C)Z" } : Jvm.MethodName)) := ⟨List.mem_append_right _ (List.mem_append_right _ (List.mem_append_right _ (List.mem_append_right _ (List.mem_append_left _ (List.mem_of_getElem? (i := 101) rfl))))), by decide +kernel⟩
theorem tw_t823 : tw (Jvm.Cond.instanceMethod ({ cls := "TestEmitterModel", name := "plain", desc := "(C)Z" } : Jvm.MethodName)) := ⟨List.mem_append_right _ (List.mem_append_right _ (List.mem_append_right _ (List.mem_append_right _ (List.mem_append_left _ (List.mem_of_getElem? (i := 103) rfl))))), by decide +kernel⟩
theorem tw_t824 : tw (Jvm.Cond.code ({ cls := "TestEmitterModel", name := "plain", desc := "(C)Z" } : Jvm.MethodName) prog_10_method_3_code (2 : Nat) (Option.some Jvm.ClassFile.FieldType.boolean)) := ⟨List.mem_append_right _ (List.mem_append_right _ (List.mem_append_right _ (List.mem_append_right _ (List.mem_append_left _ (List.mem_of_getElem? (i := 104) rfl))))), by decide +kernel⟩
theorem tw_t825 : tw (Jvm.Cond.methodLink "TestEmitterLaw" (34 : Nat) ({ cls := "TestEmitterModel", name := "parameters", desc := "()I" } : Jvm.MethodName)) := ⟨List.mem_append_right _ (List.mem_append_right _ (List.mem_append_right _ (List.mem_append_right _ (List.mem_append_left _ (List.mem_of_getElem? (i := 105) rfl))))), by decide +kernel⟩
theorem tw_t826 : tw (Jvm.Cond.instanceMethod ({ cls := "TestEmitterModel", name := "parameters", desc := "()I" } : Jvm.MethodName)) := ⟨List.mem_append_right _ (List.mem_append_right _ (List.mem_append_right _ (List.mem_append_right _ (List.mem_append_left _ (List.mem_of_getElem? (i := 106) rfl))))), by decide +kernel⟩
theorem tw_t827 : tw (Jvm.Cond.selects "TestEmitterModel" ({ cls := "TestEmitterModel", name := "parameters", desc := "()I" } : Jvm.MethodName) ({ cls := "TestEmitterModel", name := "parameters", desc := "()I" } : Jvm.MethodName)) := ⟨List.mem_append_right _ (List.mem_append_right _ (List.mem_append_right _ (List.mem_append_right _ (List.mem_append_left _ (List.mem_of_getElem? (i := 107) rfl))))), by decide +kernel⟩
theorem tw_t828 : tw (Jvm.Cond.code ({ cls := "TestEmitterModel", name := "parameters", desc := "()I" } : Jvm.MethodName) prog_10_method_7_code (1 : Nat) (Option.some Jvm.ClassFile.FieldType.int)) := ⟨List.mem_append_right _ (List.mem_append_right _ (List.mem_append_right _ (List.mem_append_right _ (List.mem_append_left _ (List.mem_of_getElem? (i := 108) rfl))))), by decide +kernel⟩
theorem tw_t829 : tw (Jvm.Cond.methodLink "TestEmitterLaw" (38 : Nat) ({ cls := "TestEmitterModel", name := "result", desc := "()I" } : Jvm.MethodName)) := ⟨List.mem_append_right _ (List.mem_append_right _ (List.mem_append_right _ (List.mem_append_right _ (List.mem_append_left _ (List.mem_of_getElem? (i := 109) rfl))))), by decide +kernel⟩
theorem tw_t830 : tw (Jvm.Cond.instanceMethod ({ cls := "TestEmitterModel", name := "result", desc := "()I" } : Jvm.MethodName)) := ⟨List.mem_append_right _ (List.mem_append_right _ (List.mem_append_right _ (List.mem_append_right _ (List.mem_append_left _ (List.mem_of_getElem? (i := 110) rfl))))), by decide +kernel⟩
theorem tw_t831 : tw (Jvm.Cond.selects "TestEmitterModel" ({ cls := "TestEmitterModel", name := "result", desc := "()I" } : Jvm.MethodName) ({ cls := "TestEmitterModel", name := "result", desc := "()I" } : Jvm.MethodName)) := ⟨List.mem_append_right _ (List.mem_append_right _ (List.mem_append_right _ (List.mem_append_right _ (List.mem_append_left _ (List.mem_of_getElem? (i := 111) rfl))))), by decide +kernel⟩
theorem tw_t832 : tw (Jvm.Cond.code ({ cls := "TestEmitterModel", name := "result", desc := "()I" } : Jvm.MethodName) prog_10_method_8_code (5 : Nat) (Option.some Jvm.ClassFile.FieldType.int)) := ⟨List.mem_append_right _ (List.mem_append_right _ (List.mem_append_right _ (List.mem_append_right _ (List.mem_append_left _ (List.mem_of_getElem? (i := 112) rfl))))), by decide +kernel⟩
theorem tw_t833 : tw (Jvm.Cond.methodLink "TestEmitterLaw" (42 : Nat) ({ cls := "TestEmitterModel", name := "data", desc := "(I)I" } : Jvm.MethodName)) := ⟨List.mem_append_right _ (List.mem_append_right _ (List.mem_append_right _ (List.mem_append_right _ (List.mem_append_left _ (List.mem_of_getElem? (i := 113) rfl))))), by decide +kernel⟩
theorem tw_t834 : tw (Jvm.Cond.instanceMethod ({ cls := "TestEmitterModel", name := "data", desc := "(I)I" } : Jvm.MethodName)) := ⟨List.mem_append_right _ (List.mem_append_right _ (List.mem_append_right _ (List.mem_append_right _ (List.mem_append_left _ (List.mem_of_getElem? (i := 114) rfl))))), by decide +kernel⟩
theorem tw_t835 : tw (Jvm.Cond.selects "TestEmitterModel" ({ cls := "TestEmitterModel", name := "data", desc := "(I)I" } : Jvm.MethodName) ({ cls := "TestEmitterModel", name := "data", desc := "(I)I" } : Jvm.MethodName)) := ⟨List.mem_append_right _ (List.mem_append_right _ (List.mem_append_right _ (List.mem_append_right _ (List.mem_append_left _ (List.mem_of_getElem? (i := 115) rfl))))), by decide +kernel⟩
theorem tw_t836 : tw (Jvm.Cond.code ({ cls := "TestEmitterModel", name := "data", desc := "(I)I" } : Jvm.MethodName) prog_10_method_9_code (2 : Nat) (Option.some Jvm.ClassFile.FieldType.int)) := ⟨List.mem_append_right _ (List.mem_append_right _ (List.mem_append_right _ (List.mem_append_right _ (List.mem_append_left _ (List.mem_of_getElem? (i := 116) rfl))))), by decide +kernel⟩
theorem tw_t837 : tw (Jvm.Cond.methodLink "TestEmitterLaw" (46 : Nat) ({ cls := "TestEmitterModel", name := "clear", desc := "()I" } : Jvm.MethodName)) := ⟨List.mem_append_right _ (List.mem_append_right _ (List.mem_append_right _ (List.mem_append_right _ (List.mem_append_left _ (List.mem_of_getElem? (i := 117) rfl))))), by decide +kernel⟩
theorem tw_t838 : tw (Jvm.Cond.instanceMethod ({ cls := "TestEmitterModel", name := "clear", desc := "()I" } : Jvm.MethodName)) := ⟨List.mem_append_right _ (List.mem_append_right _ (List.mem_append_right _ (List.mem_append_right _ (List.mem_append_left _ (List.mem_of_getElem? (i := 118) rfl))))), by decide +kernel⟩
theorem tw_t839 : tw (Jvm.Cond.selects "TestEmitterModel" ({ cls := "TestEmitterModel", name := "clear", desc := "()I" } : Jvm.MethodName) ({ cls := "TestEmitterModel", name := "clear", desc := "()I" } : Jvm.MethodName)) := ⟨List.mem_append_right _ (List.mem_append_right _ (List.mem_append_right _ (List.mem_append_right _ (List.mem_append_left _ (List.mem_of_getElem? (i := 119) rfl))))), by decide +kernel⟩
theorem tw_t840 : tw (Jvm.Cond.code ({ cls := "TestEmitterModel", name := "clear", desc := "()I" } : Jvm.MethodName) prog_10_method_10_code (2 : Nat) (Option.some Jvm.ClassFile.FieldType.int)) := ⟨List.mem_append_right _ (List.mem_append_right _ (List.mem_append_right _ (List.mem_append_right _ (List.mem_append_left _ (List.mem_of_getElem? (i := 120) rfl))))), by decide +kernel⟩
theorem tw_t841 : tw (Jvm.Cond.methodLink "TestEmitterLaw" (50 : Nat) ({ cls := "TestEmitterModel", name := "returned", desc := "()I" } : Jvm.MethodName)) := ⟨List.mem_append_right _ (List.mem_append_right _ (List.mem_append_right _ (List.mem_append_right _ (List.mem_append_left _ (List.mem_of_getElem? (i := 121) rfl))))), by decide +kernel⟩
theorem tw_t842 : tw (Jvm.Cond.instanceMethod ({ cls := "TestEmitterModel", name := "returned", desc := "()I" } : Jvm.MethodName)) := ⟨List.mem_append_right _ (List.mem_append_right _ (List.mem_append_right _ (List.mem_append_right _ (List.mem_append_left _ (List.mem_of_getElem? (i := 122) rfl))))), by decide +kernel⟩
theorem tw_t843 : tw (Jvm.Cond.selects "TestEmitterModel" ({ cls := "TestEmitterModel", name := "returned", desc := "()I" } : Jvm.MethodName) ({ cls := "TestEmitterModel", name := "returned", desc := "()I" } : Jvm.MethodName)) := ⟨List.mem_append_right _ (List.mem_append_right _ (List.mem_append_right _ (List.mem_append_right _ (List.mem_append_left _ (List.mem_of_getElem? (i := 123) rfl))))), by decide +kernel⟩
theorem tw_t844 : tw (Jvm.Cond.code ({ cls := "TestEmitterModel", name := "returned", desc := "()I" } : Jvm.MethodName) prog_10_method_36_code (5 : Nat) (Option.some Jvm.ClassFile.FieldType.int)) := ⟨List.mem_append_right _ (List.mem_append_right _ (List.mem_append_right _ (List.mem_append_right _ (List.mem_append_left _ (List.mem_of_getElem? (i := 124) rfl))))), by decide +kernel⟩
theorem tw_t845 : tw (Jvm.Cond.methodLink "TestEmitterModel" (240 : Nat) ({ cls := "TestEmitterModel", name := "call", desc := "()V" } : Jvm.MethodName)) := ⟨List.mem_append_right _ (List.mem_append_right _ (List.mem_append_right _ (List.mem_append_right _ (List.mem_append_left _ (List.mem_of_getElem? (i := 125) rfl))))), by decide +kernel⟩
theorem tw_t847 : tw (Jvm.Cond.instanceMethod ({ cls := "TestEmitterModel", name := "call", desc := "()V" } : Jvm.MethodName)) := ⟨List.mem_append_right _ (List.mem_append_right _ (List.mem_append_right _ (List.mem_append_right _ (List.mem_append_left _ (List.mem_of_getElem? (i := 127) rfl))))), by decide +kernel⟩
theorem tw_t848 : tw (Jvm.Cond.code ({ cls := "TestEmitterModel", name := "call", desc := "()V" } : Jvm.MethodName) prog_10_method_31_code (1 : Nat) (Option.none : Option Jvm.ClassFile.FieldType)) := ⟨List.mem_append_right _ (List.mem_append_right _ (List.mem_append_right _ (List.mem_append_right _ (List.mem_append_left _ (List.mem_of_getElem? (i := 128) rfl))))), by decide +kernel⟩
theorem tw_t849 : tw (Jvm.Cond.constantLong "TestEmitterModel" (223 : Nat) (6080266760336191090 : Int64)) := ⟨List.mem_append_right _ (List.mem_append_right _ (List.mem_append_right _ (List.mem_append_right _ (List.mem_append_left _ (List.mem_of_getElem? (i := 129) rfl))))), by decide +kernel⟩
theorem tw_t850 : tw (Jvm.Cond.methodLink "TestEmitterModel" (112 : Nat) ({ cls := "TestEmitterModel", name := "word", desc := "(J)V" } : Jvm.MethodName)) := ⟨List.mem_append_right _ (List.mem_append_right _ (List.mem_append_right _ (List.mem_append_right _ (List.mem_append_left _ (List.mem_of_getElem? (i := 130) rfl))))), by decide +kernel⟩
theorem tw_t852 : tw (Jvm.Cond.instanceMethod ({ cls := "TestEmitterModel", name := "word", desc := "(J)V" } : Jvm.MethodName)) := ⟨List.mem_append_right _ (List.mem_append_right _ (List.mem_append_right _ (List.mem_append_right _ (List.mem_append_left _ (List.mem_of_getElem? (i := 132) rfl))))), by decide +kernel⟩
theorem tw_t853 : tw (Jvm.Cond.code ({ cls := "TestEmitterModel", name := "word", desc := "(J)V" } : Jvm.MethodName) prog_10_method_13_code (4 : Nat) (Option.none : Option Jvm.ClassFile.FieldType)) := ⟨List.mem_append_right _ (List.mem_append_right _ (List.mem_append_right _ (List.mem_append_right _ (List.mem_append_left _ (List.mem_of_getElem? (i := 133) rfl))))), by decide +kernel⟩
theorem tw_t854 : tw (Jvm.Cond.constantLong "TestEmitterModel" (100 : Nat) (255 : Int64)) := ⟨List.mem_append_right _ (List.mem_append_right _ (List.mem_append_right _ (List.mem_append_right _ (List.mem_append_left _ (List.mem_of_getElem? (i := 134) rfl))))), by decide +kernel⟩
theorem tw_t855 : tw (Jvm.Cond.methodLink "TestEmitterModel" (102 : Nat) ({ cls := "TestEmitterModel", name := "put", desc := "(I)V" } : Jvm.MethodName)) := ⟨List.mem_append_right _ (List.mem_append_right _ (List.mem_append_right _ (List.mem_append_right _ (List.mem_append_left _ (List.mem_of_getElem? (i := 135) rfl))))), by decide +kernel⟩
theorem tw_t857 : tw (Jvm.Cond.instanceMethod ({ cls := "TestEmitterModel", name := "put", desc := "(I)V" } : Jvm.MethodName)) := ⟨List.mem_append_right _ (List.mem_append_right _ (List.mem_append_right _ (List.mem_append_right _ (List.mem_append_left _ (List.mem_of_getElem? (i := 137) rfl))))), by decide +kernel⟩
theorem tw_t858 : tw (Jvm.Cond.code ({ cls := "TestEmitterModel", name := "put", desc := "(I)V" } : Jvm.MethodName) prog_10_method_12_code (2 : Nat) (Option.none : Option Jvm.ClassFile.FieldType)) := ⟨List.mem_append_right _ (List.mem_append_right _ (List.mem_append_right _ (List.mem_append_right _ (List.mem_append_left _ (List.mem_of_getElem? (i := 138) rfl))))), by decide +kernel⟩
theorem tw_t859 : tw (Jvm.Cond.constantLong "TestEmitterModel" (225 : Nat) (7695912 : Int64)) := ⟨List.mem_append_right _ (List.mem_append_right _ (List.mem_append_right _ (List.mem_append_right _ (List.mem_append_left _ (List.mem_of_getElem? (i := 139) rfl))))), by decide +kernel⟩
theorem tw_t860 : tw (Jvm.Cond.methodLink "TestEmitterModel" (189 : Nat) ({ cls := "TestEmitterModel", name := "planRow", desc := "(I)V" } : Jvm.MethodName)) := ⟨List.mem_append_right _ (List.mem_append_right _ (List.mem_append_right _ (List.mem_append_right _ (List.mem_append_left _ (List.mem_of_getElem? (i := 140) rfl))))), by decide +kernel⟩
theorem tw_t862 : tw (Jvm.Cond.instanceMethod ({ cls := "TestEmitterModel", name := "planRow", desc := "(I)V" } : Jvm.MethodName)) := ⟨List.mem_append_right _ (List.mem_append_right _ (List.mem_append_right _ (List.mem_append_right _ (List.mem_append_left _ (List.mem_of_getElem? (i := 142) rfl))))), by decide +kernel⟩
theorem tw_t863 : tw (Jvm.Cond.code ({ cls := "TestEmitterModel", name := "planRow", desc := "(I)V" } : Jvm.MethodName) prog_10_method_24_code (8 : Nat) (Option.none : Option Jvm.ClassFile.FieldType)) := ⟨List.mem_append_right _ (List.mem_append_right _ (List.mem_append_right _ (List.mem_append_right _ (List.mem_append_left _ (List.mem_of_getElem? (i := 143) rfl))))), by decide +kernel⟩
theorem tw_t864 : tw (Jvm.Cond.methodLink "TestEmitterModel" (179 : Nat) ({ cls := "TestEmitterModel", name := "plan", desc := "(I)V" } : Jvm.MethodName)) := ⟨List.mem_append_right _ (List.mem_append_right _ (List.mem_append_right _ (List.mem_append_right _ (List.mem_append_left _ (List.mem_of_getElem? (i := 144) rfl))))), by decide +kernel⟩
theorem tw_t866 : tw (Jvm.Cond.instanceMethod ({ cls := "TestEmitterModel", name := "plan", desc := "(I)V" } : Jvm.MethodName)) := ⟨List.mem_append_right _ (List.mem_append_right _ (List.mem_append_right _ (List.mem_append_right _ (List.mem_append_left _ (List.mem_of_getElem? (i := 146) rfl))))), by decide +kernel⟩
theorem tw_t867 : tw (Jvm.Cond.code ({ cls := "TestEmitterModel", name := "plan", desc := "(I)V" } : Jvm.MethodName) prog_10_method_25_code (2 : Nat) (Option.none : Option Jvm.ClassFile.FieldType)) := ⟨List.mem_append_right _ (List.mem_append_right _ (List.mem_append_right _ (List.mem_append_right _ (List.mem_append_left _ (List.mem_of_getElem? (i := 147) rfl))))), by decide +kernel⟩
theorem tw_t868 : tw (Jvm.Cond.methodLink "TestEmitterModel" (227 : Nat) ({ cls := "TestEmitterModel", name := "writeList", desc := "()V" } : Jvm.MethodName)) := ⟨List.mem_append_right _ (List.mem_append_right _ (List.mem_append_right _ (List.mem_append_right _ (List.mem_append_left _ (List.mem_of_getElem? (i := 148) rfl))))), by decide +kernel⟩
theorem tw_t870 : tw (Jvm.Cond.instanceMethod ({ cls := "TestEmitterModel", name := "writeList", desc := "()V" } : Jvm.MethodName)) := ⟨List.mem_append_right _ (List.mem_append_right _ (List.mem_append_right _ (List.mem_append_right _ (List.mem_append_left _ (List.mem_of_getElem? (i := 150) rfl))))), by decide +kernel⟩
theorem tw_t871 : tw (Jvm.Cond.code ({ cls := "TestEmitterModel", name := "writeList", desc := "()V" } : Jvm.MethodName) prog_10_method_29_code (2 : Nat) (Option.none : Option Jvm.ClassFile.FieldType)) := ⟨List.mem_append_right _ (List.mem_append_right _ (List.mem_append_right _ (List.mem_append_right _ (List.mem_append_left _ (List.mem_of_getElem? (i := 151) rfl))))), by decide +kernel⟩
theorem tw_t872 : tw (Jvm.Cond.methodLink "TestEmitterModel" (220 : Nat) ({ cls := "TestEmitterModel", name := "value", desc := "(IZ)V" } : Jvm.MethodName)) := ⟨List.mem_append_right _ (List.mem_append_right _ (List.mem_append_right _ (List.mem_append_right _ (List.mem_append_left _ (List.mem_of_getElem? (i := 152) rfl))))), by decide +kernel⟩
theorem tw_t874 : tw (Jvm.Cond.instanceMethod ({ cls := "TestEmitterModel", name := "value", desc := "(IZ)V" } : Jvm.MethodName)) := ⟨List.mem_append_right _ (List.mem_append_right _ (List.mem_append_right _ (List.mem_append_right _ (List.mem_append_left _ (List.mem_of_getElem? (i := 154) rfl))))), by decide +kernel⟩
theorem tw_t875 : tw (Jvm.Cond.code ({ cls := "TestEmitterModel", name := "value", desc := "(IZ)V" } : Jvm.MethodName) prog_10_method_28_code (4 : Nat) (Option.none : Option Jvm.ClassFile.FieldType)) := ⟨List.mem_append_right _ (List.mem_append_right _ (List.mem_append_right _ (List.mem_append_right _ (List.mem_append_left _ (List.mem_of_getElem? (i := 155) rfl))))), by decide +kernel⟩
theorem tw_t876 : tw (Jvm.Cond.methodLink "TestEmitterModel" (192 : Nat) ({ cls := "TestEmitterModel", name := "array", desc := "(IZ)V" } : Jvm.MethodName)) := ⟨List.mem_append_right _ (List.mem_append_right _ (List.mem_append_right _ (List.mem_append_right _ (List.mem_append_left _ (List.mem_of_getElem? (i := 156) rfl))))), by decide +kernel⟩
theorem tw_t878 : tw (Jvm.Cond.instanceMethod ({ cls := "TestEmitterModel", name := "array", desc := "(IZ)V" } : Jvm.MethodName)) := ⟨List.mem_append_right _ (List.mem_append_right _ (List.mem_append_right _ (List.mem_append_right _ (List.mem_append_left _ (List.mem_of_getElem? (i := 158) rfl))))), by decide +kernel⟩
theorem tw_t879 : tw (Jvm.Cond.code ({ cls := "TestEmitterModel", name := "array", desc := "(IZ)V" } : Jvm.MethodName) prog_10_method_26_code (5 : Nat) (Option.none : Option Jvm.ClassFile.FieldType)) := ⟨List.mem_append_right _ (List.mem_append_right _ (List.mem_append_right _ (List.mem_append_right _ (List.mem_append_left _ (List.mem_of_getElem? (i := 159) rfl))))), by decide +kernel⟩
theorem tw_t880 : tw (Jvm.Cond.methodLink "TestEmitterModel" (129 : Nat) ({ cls := "TestEmitterModel", name := "next", desc := "()I" } : Jvm.MethodName)) := ⟨List.mem_append_right _ (List.mem_append_right _ (List.mem_append_right _ (List.mem_append_right _ (List.mem_append_left _ (List.mem_of_getElem? (i := 160) rfl))))), by decide +kernel⟩
theorem tw_t882 : tw (Jvm.Cond.instanceMethod ({ cls := "TestEmitterModel", name := "next", desc := "()I" } : Jvm.MethodName)) := ⟨List.mem_append_right _ (List.mem_append_right _ (List.mem_append_right _ (List.mem_append_right _ (List.mem_append_left _ (List.mem_of_getElem? (i := 162) rfl))))), by decide +kernel⟩
theorem tw_t883 : tw (Jvm.Cond.code ({ cls := "TestEmitterModel", name := "next", desc := "()I" } : Jvm.MethodName) prog_10_method_11_code (1 : Nat) (Option.some Jvm.ClassFile.FieldType.int)) := ⟨List.mem_append_right _ (List.mem_append_right _ (List.mem_append_right _ (List.mem_append_right _ (List.mem_append_left _ (List.mem_of_getElem? (i := 163) rfl))))), by decide +kernel⟩
theorem tw_t884 : tw (Jvm.Cond.methodLink "TestEmitterModel" (151 : Nat) ({ cls := "TestEmitterModel", name := "nothing", desc := "()V" } : Jvm.MethodName)) := ⟨List.mem_append_right _ (List.mem_append_right _ (List.mem_append_right _ (List.mem_append_right _ (List.mem_append_left _ (List.mem_of_getElem? (i := 164) rfl))))), by decide +kernel⟩
theorem tw_t886 : tw (Jvm.Cond.instanceMethod ({ cls := "TestEmitterModel", name := "nothing", desc := "()V" } : Jvm.MethodName)) := ⟨List.mem_append_right _ (List.mem_append_right _ (List.mem_append_right _ (List.mem_append_right _ (List.mem_append_left _ (List.mem_of_getElem? (i := 166) rfl))))), by decide +kernel⟩
theorem tw_t887 : tw (Jvm.Cond.code ({ cls := "TestEmitterModel", name := "nothing", desc := "()V" } : Jvm.MethodName) prog_10_method_22_code (1 : Nat) (Option.none : Option Jvm.ClassFile.FieldType)) := ⟨List.mem_append_right _ (List.mem_append_right _ (List.mem_append_right _ (List.mem_append_right _ (List.mem_append_left _ (List.mem_of_getElem? (i := 167) rfl))))), by decide +kernel⟩
theorem tw_t888 : tw (Jvm.Cond.constantLong "TestEmitterModel" (159 : Nat) (1853189228 : Int64)) := ⟨List.mem_append_right _ (List.mem_append_right _ (List.mem_append_right _ (List.mem_append_right _ (List.mem_append_left _ (List.mem_of_getElem? (i := 168) rfl))))), by decide +kernel⟩
theorem tw_t889 : tw (Jvm.Cond.constantLong "TestEmitterModel" (182 : Nat) (1852143392 : Int64)) := ⟨List.mem_append_right _ (List.mem_append_right _ (List.mem_append_right _ (List.mem_append_right _ (List.mem_append_left _ (List.mem_of_getElem? (i := 169) rfl))))), by decide +kernel⟩
theorem tw_t890 : tw (Jvm.Cond.methodLink "TestEmitterModel" (184 : Nat) ({ cls := "TestEmitterModel", name := "arrayName", desc := "(I)V" } : Jvm.MethodName)) := ⟨List.mem_append_right _ (List.mem_append_right _ (List.mem_append_right _ (List.mem_append_right _ (List.mem_append_left _ (List.mem_of_getElem? (i := 170) rfl))))), by decide +kernel⟩
theorem tw_t892 : tw (Jvm.Cond.instanceMethod ({ cls := "TestEmitterModel", name := "arrayName", desc := "(I)V" } : Jvm.MethodName)) := ⟨List.mem_append_right _ (List.mem_append_right _ (List.mem_append_right _ (List.mem_append_right _ (List.mem_append_left _ (List.mem_of_getElem? (i := 172) rfl))))), by decide +kernel⟩
theorem tw_t893 : tw (Jvm.Cond.code ({ cls := "TestEmitterModel", name := "arrayName", desc := "(I)V" } : Jvm.MethodName) prog_10_method_23_code (5 : Nat) (Option.none : Option Jvm.ClassFile.FieldType)) := ⟨List.mem_append_right _ (List.mem_append_right _ (List.mem_append_right _ (List.mem_append_right _ (List.mem_append_left _ (List.mem_of_getElem? (i := 173) rfl))))), by decide +kernel⟩
theorem tw_t894 : tw (Jvm.Cond.constantLong "TestEmitterModel" (161 : Nat) (27707072068280686 : Int64)) := ⟨List.mem_append_right _ (List.mem_append_right _ (List.mem_append_right _ (List.mem_append_right _ (List.mem_append_left _ (List.mem_of_getElem? (i := 174) rfl))))), by decide +kernel⟩
theorem tw_t895 : tw (Jvm.Cond.constantLong "TestEmitterModel" (163 : Nat) (1652126821 : Int64)) := ⟨List.mem_append_right _ (List.mem_append_right _ (List.mem_append_right _ (List.mem_append_right _ (List.mem_append_left _ (List.mem_of_getElem? (i := 175) rfl))))), by decide +kernel⟩
theorem tw_t896 : tw (Jvm.Cond.constantLong "TestEmitterModel" (165 : Nat) (1667785074 : Int64)) := ⟨List.mem_append_right _ (List.mem_append_right _ (List.mem_append_right _ (List.mem_append_right _ (List.mem_append_left _ (List.mem_of_getElem? (i := 176) rfl))))), by decide +kernel⟩
theorem tw_t897 : tw (Jvm.Cond.constantLong "TestEmitterModel" (167 : Nat) (495673373300 : Int64)) := ⟨List.mem_append_right _ (List.mem_append_right _ (List.mem_append_right _ (List.mem_append_right _ (List.mem_append_left _ (List.mem_of_getElem? (i := 177) rfl))))), by decide +kernel⟩
theorem tw_t898 : tw (Jvm.Cond.constantLong "TestEmitterModel" (169 : Nat) (6909556 : Int64)) := ⟨List.mem_append_right _ (List.mem_append_right _ (List.mem_append_right _ (List.mem_append_right _ (List.mem_append_left _ (List.mem_of_getElem? (i := 178) rfl))))), by decide +kernel⟩
theorem tw_t899 : tw (Jvm.Cond.constantLong "TestEmitterModel" (171 : Nat) (1819242087 : Int64)) := ⟨List.mem_append_right _ (List.mem_append_right _ (List.mem_append_right _ (List.mem_append_right _ (List.mem_append_left _ (List.mem_of_getElem? (i := 179) rfl))))), by decide +kernel⟩
theorem tw_t900 : tw (Jvm.Cond.constantLong "TestEmitterModel" (173 : Nat) (439905902964 : Int64)) := ⟨List.mem_append_right _ (List.mem_append_right _ (List.mem_append_right _ (List.mem_append_right _ (List.mem_append_left _ (List.mem_of_getElem? (i := 180) rfl))))), by decide +kernel⟩
theorem tw_t901 : tw (Jvm.Cond.constantLong "TestEmitterModel" (175 : Nat) (110429873532005 : Int64)) := ⟨List.mem_append_right _ (List.mem_append_right _ (List.mem_append_right _ (List.mem_append_right _ (List.mem_append_left _ (List.mem_of_getElem? (i := 181) rfl))))), by decide +kernel⟩
theorem tw_t902 : tw (Jvm.Cond.constantLong "TestEmitterModel" (177 : Nat) (91759600823911 : Int64)) := ⟨List.mem_append_right _ (List.mem_append_right _ (List.mem_append_right _ (List.mem_append_right _ (List.mem_append_left _ (List.mem_of_getElem? (i := 182) rfl))))), by decide +kernel⟩
theorem tw_t903 : tw (Jvm.Cond.methodLink "TestEmitterModel" (196 : Nat) ({ cls := "TestEmitterModel", name := "object", desc := "(I)V" } : Jvm.MethodName)) := ⟨List.mem_append_right _ (List.mem_append_right _ (List.mem_append_right _ (List.mem_append_right _ (List.mem_append_left _ (List.mem_of_getElem? (i := 183) rfl))))), by decide +kernel⟩
theorem tw_t905 : tw (Jvm.Cond.instanceMethod ({ cls := "TestEmitterModel", name := "object", desc := "(I)V" } : Jvm.MethodName)) := ⟨List.mem_append_right _ (List.mem_append_right _ (List.mem_append_right _ (List.mem_append_right _ (List.mem_append_left _ (List.mem_of_getElem? (i := 185) rfl))))), by decide +kernel⟩
theorem tw_t906 : tw (Jvm.Cond.code ({ cls := "TestEmitterModel", name := "object", desc := "(I)V" } : Jvm.MethodName) prog_10_method_27_code (3 : Nat) (Option.none : Option Jvm.ClassFile.FieldType)) := ⟨List.mem_append_right _ (List.mem_append_right _ (List.mem_append_right _ (List.mem_append_right _ (List.mem_append_left _ (List.mem_of_getElem? (i := 186) rfl))))), by decide +kernel⟩
theorem tw_t907 : tw (Jvm.Cond.constantLong "TestEmitterModel" (187 : Nat) (474148708419 : Int64)) := ⟨List.mem_append_right _ (List.mem_append_right _ (List.mem_append_right _ (List.mem_append_right _ (List.mem_append_left _ (List.mem_of_getElem? (i := 187) rfl))))), by decide +kernel⟩
theorem tw_t908 : tw (Jvm.Cond.constantLong "TestEmitterModel" (199 : Nat) (1953658213 : Int64)) := ⟨List.mem_append_right _ (List.mem_append_right _ (List.mem_append_right _ (List.mem_append_right _ (List.mem_append_left _ (List.mem_of_getElem? (i := 188) rfl))))), by decide +kernel⟩
theorem tw_t909 : tw (Jvm.Cond.constantLong "TestEmitterModel" (201 : Nat) (439721161573 : Int64)) := ⟨List.mem_append_right _ (List.mem_append_right _ (List.mem_append_right _ (List.mem_append_right _ (List.mem_append_left _ (List.mem_of_getElem? (i := 189) rfl))))), by decide +kernel⟩
theorem tw_t910 : tw (Jvm.Cond.methodLink "TestEmitterModel" (203 : Nat) ({ cls := "TestEmitterModel", name := "wide", desc := "()V" } : Jvm.MethodName)) := ⟨List.mem_append_right _ (List.mem_append_right _ (List.mem_append_right _ (List.mem_append_right _ (List.mem_append_left _ (List.mem_of_getElem? (i := 190) rfl))))), by decide +kernel⟩
theorem tw_t912 : tw (Jvm.Cond.instanceMethod ({ cls := "TestEmitterModel", name := "wide", desc := "()V" } : Jvm.MethodName)) := ⟨List.mem_append_right _ (List.mem_append_right _ (List.mem_append_right _ (List.mem_append_right _ (List.mem_append_left _ (List.mem_of_getElem? (i := 192) rfl))))), by decide +kernel⟩
theorem tw_t913 : tw (Jvm.Cond.code ({ cls := "TestEmitterModel", name := "wide", desc := "()V" } : Jvm.MethodName) prog_10_method_20_code (4 : Nat) (Option.none : Option Jvm.ClassFile.FieldType)) := ⟨List.mem_append_right _ (List.mem_append_right _ (List.mem_append_right _ (List.mem_append_right _ (List.mem_append_left _ (List.mem_of_getElem? (i := 193) rfl))))), by decide +kernel⟩
theorem tw_t914 : tw (Jvm.Cond.constantLong "TestEmitterModel" (143 : Nat) (4294967296 : Int64)) := ⟨List.mem_append_right _ (List.mem_append_right _ (List.mem_append_right _ (List.mem_append_right _ (List.mem_append_left _ (List.mem_of_getElem? (i := 194) rfl))))), by decide +kernel⟩
theorem tw_t915 : tw (Jvm.Cond.constantLong "TestEmitterModel" (145 : Nat) (4294967295 : Int64)) := ⟨List.mem_append_right _ (List.mem_append_right _ (List.mem_append_right _ (List.mem_append_right _ (List.mem_append_left _ (List.mem_of_getElem? (i := 195) rfl))))), by decide +kernel⟩
theorem tw_t916 : tw (Jvm.Cond.constantLong "TestEmitterModel" (147 : Nat) (-9223372036854775808 : Int64)) := ⟨List.mem_append_right _ (List.mem_append_right _ (List.mem_append_right _ (List.mem_append_right _ (List.mem_append_left _ (List.mem_of_getElem? (i := 196) rfl))))), by decide +kernel⟩
theorem tw_t917 : tw (Jvm.Cond.constantLong "TestEmitterModel" (149 : Nat) (1282371175 : Int64)) := ⟨List.mem_append_right _ (List.mem_append_right _ (List.mem_append_right _ (List.mem_append_right _ (List.mem_append_left _ (List.mem_of_getElem? (i := 197) rfl))))), by decide +kernel⟩
theorem tw_t918 : tw (Jvm.Cond.methodLink "TestEmitterModel" (140 : Nat) ({ cls := "TestEmitterModel", name := "least", desc := "(J)V" } : Jvm.MethodName)) := ⟨List.mem_append_right _ (List.mem_append_right _ (List.mem_append_right _ (List.mem_append_right _ (List.mem_append_left _ (List.mem_of_getElem? (i := 198) rfl))))), by decide +kernel⟩
theorem tw_t920 : tw (Jvm.Cond.instanceMethod ({ cls := "TestEmitterModel", name := "least", desc := "(J)V" } : Jvm.MethodName)) := ⟨List.mem_append_right _ (List.mem_append_right _ (List.mem_append_right _ (List.mem_append_right _ (List.mem_append_left _ (List.mem_of_getElem? (i := 200) rfl))))), by decide +kernel⟩
theorem tw_t921 : tw (Jvm.Cond.code ({ cls := "TestEmitterModel", name := "least", desc := "(J)V" } : Jvm.MethodName) prog_10_method_15_code (3 : Nat) (Option.none : Option Jvm.ClassFile.FieldType)) := ⟨List.mem_append_right _ (List.mem_append_right _ (List.mem_append_right _ (List.mem_append_right _ (List.mem_append_left _ (List.mem_of_getElem? (i := 201) rfl))))), by decide +kernel⟩
theorem tw_t922 : tw (Jvm.Cond.constantLong "TestEmitterModel" (116 : Nat) (3336403499907170636 : Int64)) := ⟨List.mem_append_right _ (List.mem_append_right _ (List.mem_append_right _ (List.mem_append_right _ (List.mem_append_left _ (List.mem_of_getElem? (i := 202) rfl))))), by decide +kernel⟩
theorem tw_t923 : tw (Jvm.Cond.constantLong "TestEmitterModel" (118 : Nat) (21829 : Int64)) := ⟨List.mem_append_right _ (List.mem_append_right _ (List.mem_append_right _ (List.mem_append_right _ (List.mem_append_left _ (List.mem_of_getElem? (i := 203) rfl))))), by decide +kernel⟩
theorem tw_t924 : tw (Jvm.Cond.methodLink "TestEmitterModel" (126 : Nat) ({ cls := "TestEmitterModel", name := "number", desc := "(J)V" } : Jvm.MethodName)) := ⟨List.mem_append_right _ (List.mem_append_right _ (List.mem_append_right _ (List.mem_append_right _ (List.mem_append_left _ (List.mem_of_getElem? (i := 204) rfl))))), by decide +kernel⟩
theorem tw_t926 : tw (Jvm.Cond.instanceMethod ({ cls := "TestEmitterModel", name := "number", desc := "(J)V" } : Jvm.MethodName)) := ⟨List.mem_append_right _ (List.mem_append_right _ (List.mem_append_right _ (List.mem_append_right _ (List.mem_append_left _ (List.mem_of_getElem? (i := 206) rfl))))), by decide +kernel⟩
theorem tw_t927 : tw (Jvm.Cond.code ({ cls := "TestEmitterModel", name := "number", desc := "(J)V" } : Jvm.MethodName) prog_10_method_14_code (7 : Nat) (Option.none : Option Jvm.ClassFile.FieldType)) := ⟨List.mem_append_right _ (List.mem_append_right _ (List.mem_append_right _ (List.mem_append_right _ (List.mem_append_left _ (List.mem_of_getElem? (i := 207) rfl))))), by decide +kernel⟩
theorem tw_t928 : tw (Jvm.Cond.constantLong "TestEmitterModel" (106 : Nat) (9 : Int64)) := ⟨List.mem_append_right _ (List.mem_append_right _ (List.mem_append_right _ (List.mem_append_right _ (List.mem_append_left _ (List.mem_of_getElem? (i := 208) rfl))))), by decide +kernel⟩
theorem tw_t929 : tw (Jvm.Cond.constantLong "TestEmitterModel" (108 : Nat) (10 : Int64)) := ⟨List.mem_append_right _ (List.mem_append_right _ (List.mem_append_right _ (List.mem_append_right _ (List.mem_append_left _ (List.mem_of_getElem? (i := 209) rfl))))), by decide +kernel⟩
theorem tw_t930 : tw (Jvm.Cond.constantLong "TestEmitterModel" (110 : Nat) (48 : Int64)) := ⟨List.mem_append_right _ (List.mem_append_right _ (List.mem_append_right _ (List.mem_append_right _ (List.mem_append_left _ (List.mem_of_getElem? (i := 210) rfl))))), by decide +kernel⟩
theorem tw_t931 : tw (Jvm.Cond.methodLink "TestEmitterModel" (206 : Nat) ({ cls := "TestEmitterModel", name := "narrow", desc := "(J)J" } : Jvm.MethodName)) := ⟨List.mem_append_right _ (List.mem_append_right _ (List.mem_append_right _ (List.mem_append_right _ (List.mem_append_left _ (List.mem_of_getElem? (i := 211) rfl))))), by decide +kernel⟩
theorem tw_t933 : tw (Jvm.Cond.instanceMethod ({ cls := "TestEmitterModel", name := "narrow", desc := "(J)J" } : Jvm.MethodName)) := ⟨List.mem_append_right _ (List.mem_append_right _ (List.mem_append_right _ (List.mem_append_right _ (List.mem_append_left _ (List.mem_of_getElem? (i := 213) rfl))))), by decide +kernel⟩
theorem tw_t934 : tw (Jvm.Cond.code ({ cls := "TestEmitterModel", name := "narrow", desc := "(J)J" } : Jvm.MethodName) prog_10_method_17_code (11 : Nat) (Option.some Jvm.ClassFile.FieldType.long)) := ⟨List.mem_append_right _ (List.mem_append_right _ (List.mem_append_right _ (List.mem_append_right _ (List.mem_append_left _ (List.mem_of_getElem? (i := 214) rfl))))), by decide +kernel⟩
theorem tw_t935 : tw (Jvm.Cond.constantLong "TestEmitterModel" (120 : Nat) (16777216 : Int64)) := ⟨List.mem_append_right _ (List.mem_append_right _ (List.mem_append_right _ (List.mem_append_right _ (List.mem_append_left _ (List.mem_of_getElem? (i := 215) rfl))))), by decide +kernel⟩
theorem tw_t936 : tw (Jvm.Cond.constantLong "TestEmitterModel" (122 : Nat) (2 : Int64)) := ⟨List.mem_append_right _ (List.mem_append_right _ (List.mem_append_right _ (List.mem_append_right _ (List.mem_append_left _ (List.mem_of_getElem? (i := 216) rfl))))), by decide +kernel⟩
theorem tw_t937 : tw (Jvm.Cond.methodLink "TestEmitterModel" (210 : Nat) ({ cls := "TestEmitterModel", name := "pointed", desc := "(J)V" } : Jvm.MethodName)) := ⟨List.mem_append_right _ (List.mem_append_right _ (List.mem_append_right _ (List.mem_append_right _ (List.mem_append_left _ (List.mem_of_getElem? (i := 217) rfl))))), by decide +kernel⟩
theorem tw_t939 : tw (Jvm.Cond.instanceMethod ({ cls := "TestEmitterModel", name := "pointed", desc := "(J)V" } : Jvm.MethodName)) := ⟨List.mem_append_right _ (List.mem_append_right _ (List.mem_append_right _ (List.mem_append_right _ (List.mem_append_left _ (List.mem_of_getElem? (i := 219) rfl))))), by decide +kernel⟩
theorem tw_t940 : tw (Jvm.Cond.code ({ cls := "TestEmitterModel", name := "pointed", desc := "(J)V" } : Jvm.MethodName) prog_10_method_18_code (6 : Nat) (Option.none : Option Jvm.ClassFile.FieldType)) := ⟨List.mem_append_right _ (List.mem_append_right _ (List.mem_append_right _ (List.mem_append_right _ (List.mem_append_left _ (List.mem_of_getElem? (i := 220) rfl))))), by decide +kernel⟩
theorem tw_t941 : tw (Jvm.Cond.constantLong "TestEmitterModel" (124 : Nat) (8 : Int64)) := ⟨List.mem_append_right _ (List.mem_append_right _ (List.mem_append_right _ (List.mem_append_right _ (List.mem_append_left _ (List.mem_of_getElem? (i := 221) rfl))))), by decide +kernel⟩
theorem tw_t942 : tw (Jvm.Cond.methodLink "TestEmitterModel" (213 : Nat) ({ cls := "TestEmitterModel", name := "texts", desc := "()V" } : Jvm.MethodName)) := ⟨List.mem_append_right _ (List.mem_append_right _ (List.mem_append_right _ (List.mem_append_right _ (List.mem_append_left _ (List.mem_of_getElem? (i := 222) rfl))))), by decide +kernel⟩
theorem tw_t944 : tw (Jvm.Cond.instanceMethod ({ cls := "TestEmitterModel", name := "texts", desc := "()V" } : Jvm.MethodName)) := ⟨List.mem_append_right _ (List.mem_append_right _ (List.mem_append_right _ (List.mem_append_right _ (List.mem_append_left _ (List.mem_of_getElem? (i := 224) rfl))))), by decide +kernel⟩
theorem tw_t945 : tw (Jvm.Cond.code ({ cls := "TestEmitterModel", name := "texts", desc := "()V" } : Jvm.MethodName) prog_10_method_21_code (3 : Nat) (Option.none : Option Jvm.ClassFile.FieldType)) := ⟨List.mem_append_right _ (List.mem_append_right _ (List.mem_append_right _ (List.mem_append_right _ (List.mem_append_left _ (List.mem_of_getElem? (i := 225) rfl))))), by decide +kernel⟩
theorem tw_t946 : tw (Jvm.Cond.constant "TestEmitterModel" (154 : Nat) (65535 : Int32)) := ⟨List.mem_append_right _ (List.mem_append_right _ (List.mem_append_right _ (List.mem_append_right _ (List.mem_append_left _ (List.mem_of_getElem? (i := 226) rfl))))), by decide +kernel⟩
theorem tw_t947 : tw (Jvm.Cond.methodLink "TestEmitterModel" (155 : Nat) ({ cls := "TestEmitterModel", name := "character", desc := "(II)V" } : Jvm.MethodName)) := ⟨List.mem_append_right _ (List.mem_append_right _ (List.mem_append_right _ (List.mem_append_right _ (List.mem_append_left _ (List.mem_of_getElem? (i := 227) rfl))))), by decide +kernel⟩
theorem tw_t949 : tw (Jvm.Cond.instanceMethod ({ cls := "TestEmitterModel", name := "character", desc := "(II)V" } : Jvm.MethodName)) := ⟨List.mem_append_right _ (List.mem_append_right _ (List.mem_append_right _ (List.mem_append_right _ (List.mem_append_left _ (List.mem_of_getElem? (i := 229) rfl))))), by decide +kernel⟩
theorem tw_t950 : tw (Jvm.Cond.code ({ cls := "TestEmitterModel", name := "character", desc := "(II)V" } : Jvm.MethodName) prog_10_method_16_code (5 : Nat) (Option.none : Option Jvm.ClassFile.FieldType)) := ⟨List.mem_append_right _ (List.mem_append_right _ (List.mem_append_right _ (List.mem_append_right _ (List.mem_append_left _ (List.mem_of_getElem? (i := 230) rfl))))), by decide +kernel⟩
theorem tw_t951 : tw (Jvm.Cond.methodLink "TestEmitterModel" (216 : Nat) ({ cls := "TestEmitterModel", name := "whole", desc := "(C)V" } : Jvm.MethodName)) := ⟨List.mem_append_right _ (List.mem_append_right _ (List.mem_append_right _ (List.mem_append_right _ (List.mem_append_left _ (List.mem_of_getElem? (i := 231) rfl))))), by decide +kernel⟩
theorem tw_t953 : tw (Jvm.Cond.instanceMethod ({ cls := "TestEmitterModel", name := "whole", desc := "(C)V" } : Jvm.MethodName)) := ⟨List.mem_append_right _ (List.mem_append_right _ (List.mem_append_right _ (List.mem_append_right _ (List.mem_append_left _ (List.mem_of_getElem? (i := 233) rfl))))), by decide +kernel⟩
theorem tw_t954 : tw (Jvm.Cond.code ({ cls := "TestEmitterModel", name := "whole", desc := "(C)V" } : Jvm.MethodName) prog_10_method_19_code (3 : Nat) (Option.none : Option Jvm.ClassFile.FieldType)) := ⟨List.mem_append_right _ (List.mem_append_right _ (List.mem_append_right _ (List.mem_append_right _ (List.mem_append_left _ (List.mem_of_getElem? (i := 234) rfl))))), by decide +kernel⟩
theorem tw_t955 : tw (Jvm.Cond.constantLong "TestEmitterModel" (133 : Nat) (2910021850055122944 : Int64)) := ⟨List.mem_append_right _ (List.mem_append_right _ (List.mem_append_right _ (List.mem_append_right _ (List.mem_append_left _ (List.mem_of_getElem? (i := 235) rfl))))), by decide +kernel⟩
theorem tw_t956 : tw (Jvm.Cond.constantLong "TestEmitterModel" (135 : Nat) (2914788211709716768 : Int64)) := ⟨List.mem_append_right _ (List.mem_append_right _ (List.mem_append_right _ (List.mem_append_right _ (List.mem_append_left _ (List.mem_of_getElem? (i := 236) rfl))))), by decide +kernel⟩
theorem tw_t957 : tw (Jvm.Cond.constant "TestEmitterModel" (137 : Nat) (-2147483648 : Int32)) := ⟨List.mem_append_right _ (List.mem_append_right _ (List.mem_append_right _ (List.mem_append_right _ (List.mem_append_left _ (List.mem_of_getElem? (i := 237) rfl))))), by decide +kernel⟩
theorem tw_t958 : tw (Jvm.Cond.constantLong "TestEmitterModel" (138 : Nat) (20669119496414578 : Int64)) := ⟨List.mem_append_right _ (List.mem_append_right _ (List.mem_append_right _ (List.mem_append_right _ (List.mem_append_left _ (List.mem_of_getElem? (i := 238) rfl))))), by decide +kernel⟩
theorem tw_t959 : tw (Jvm.Cond.constantLong "TestEmitterModel" (243 : Nat) (1416787301 : Int64)) := ⟨List.mem_append_right _ (List.mem_append_right _ (List.mem_append_right _ (List.mem_append_right _ (List.mem_append_left _ (List.mem_of_getElem? (i := 239) rfl))))), by decide +kernel⟩
theorem tw_t960 : tw (Jvm.Cond.constantLong "TestEmitterModel" (245 : Nat) (302282208101 : Int64)) := ⟨List.mem_append_right _ (List.mem_append_right _ (List.mem_append_right _ (List.mem_append_right _ (List.mem_append_right _ (List.mem_of_getElem? (i := 0) rfl))))), by decide +kernel⟩
theorem tw_t961 : tw (Jvm.Cond.methodLink "TestEmitterModel" (247 : Nat) ({ cls := "TestEmitterModel", name := "assertion", desc := "(J)V" } : Jvm.MethodName)) := ⟨List.mem_append_right _ (List.mem_append_right _ (List.mem_append_right _ (List.mem_append_right _ (List.mem_append_right _ (List.mem_of_getElem? (i := 1) rfl))))), by decide +kernel⟩
theorem tw_t963 : tw (Jvm.Cond.instanceMethod ({ cls := "TestEmitterModel", name := "assertion", desc := "(J)V" } : Jvm.MethodName)) := ⟨List.mem_append_right _ (List.mem_append_right _ (List.mem_append_right _ (List.mem_append_right _ (List.mem_append_right _ (List.mem_of_getElem? (i := 3) rfl))))), by decide +kernel⟩
theorem tw_t964 : tw (Jvm.Cond.code ({ cls := "TestEmitterModel", name := "assertion", desc := "(J)V" } : Jvm.MethodName) prog_10_method_32_code (3 : Nat) (Option.none : Option Jvm.ClassFile.FieldType)) := ⟨List.mem_append_right _ (List.mem_append_right _ (List.mem_append_right _ (List.mem_append_right _ (List.mem_append_right _ (List.mem_of_getElem? (i := 4) rfl))))), by decide +kernel⟩
theorem tw_t965 : tw (Jvm.Cond.constantLong "TestEmitterModel" (230 : Nat) (107148485161588 : Int64)) := ⟨List.mem_append_right _ (List.mem_append_right _ (List.mem_append_right _ (List.mem_append_right _ (List.mem_append_right _ (List.mem_of_getElem? (i := 5) rfl))))), by decide +kernel⟩
theorem tw_t966 : tw (Jvm.Cond.constantLong "TestEmitterModel" (250 : Nat) (1316318316 : Int64)) := ⟨List.mem_append_right _ (List.mem_append_right _ (List.mem_append_right _ (List.mem_append_right _ (List.mem_append_right _ (List.mem_of_getElem? (i := 6) rfl))))), by decide +kernel⟩
theorem tw_t967 : tw (Jvm.Cond.constantLong "TestEmitterModel" (252 : Nat) (281092972921 : Int64)) := ⟨List.mem_append_right _ (List.mem_append_right _ (List.mem_append_right _ (List.mem_append_right _ (List.mem_append_right _ (List.mem_of_getElem? (i := 7) rfl))))), by decide +kernel⟩
theorem tw_t968 : tw (Jvm.Cond.constantLong "TestEmitterModel" (254 : Nat) (19546522352644904 : Int64)) := ⟨List.mem_append_right _ (List.mem_append_right _ (List.mem_append_right _ (List.mem_append_right _ (List.mem_append_right _ (List.mem_of_getElem? (i := 8) rfl))))), by decide +kernel⟩
theorem tw_t969 : tw (Jvm.Cond.constantLong "TestEmitterModel" (256 : Nat) (76353602940019 : Int64)) := ⟨List.mem_append_right _ (List.mem_append_right _ (List.mem_append_right _ (List.mem_append_right _ (List.mem_append_right _ (List.mem_of_getElem? (i := 9) rfl))))), by decide +kernel⟩
theorem tw_t970 : tw (Jvm.Cond.methodLink "TestEmitterModel" (258 : Nat) ({ cls := "TestEmitterModel", name := "copyPart", desc := "(I)V" } : Jvm.MethodName)) := ⟨List.mem_append_right _ (List.mem_append_right _ (List.mem_append_right _ (List.mem_append_right _ (List.mem_append_right _ (List.mem_of_getElem? (i := 10) rfl))))), by decide +kernel⟩
theorem tw_t972 : tw (Jvm.Cond.instanceMethod ({ cls := "TestEmitterModel", name := "copyPart", desc := "(I)V" } : Jvm.MethodName)) := ⟨List.mem_append_right _ (List.mem_append_right _ (List.mem_append_right _ (List.mem_append_right _ (List.mem_append_right _ (List.mem_of_getElem? (i := 12) rfl))))), by decide +kernel⟩
theorem tw_t973 : tw (Jvm.Cond.code ({ cls := "TestEmitterModel", name := "copyPart", desc := "(I)V" } : Jvm.MethodName) prog_10_method_30_code (3 : Nat) (Option.none : Option Jvm.ClassFile.FieldType)) := ⟨List.mem_append_right _ (List.mem_append_right _ (List.mem_append_right _ (List.mem_append_right _ (List.mem_append_right _ (List.mem_of_getElem? (i := 13) rfl))))), by decide +kernel⟩
theorem tw_t974 : tw (Jvm.Cond.constantLong "TestEmitterModel" (261 : Nat) (48516758909030 : Int64)) := ⟨List.mem_append_right _ (List.mem_append_right _ (List.mem_append_right _ (List.mem_append_right _ (List.mem_append_right _ (List.mem_of_getElem? (i := 14) rfl))))), by decide +kernel⟩
theorem tw_t975 : tw (Jvm.Cond.constantLong "TestEmitterModel" (263 : Nat) (189518589488 : Int64)) := ⟨List.mem_append_right _ (List.mem_append_right _ (List.mem_append_right _ (List.mem_append_right _ (List.mem_append_right _ (List.mem_of_getElem? (i := 15) rfl))))), by decide +kernel⟩
theorem tw_t976 : tw (Jvm.Cond.methodLink "TestEmitterModel" (265 : Nat) ({ cls := "TestEmitterModel", name := "add", desc := "(Z)I" } : Jvm.MethodName)) := ⟨List.mem_append_right _ (List.mem_append_right _ (List.mem_append_right _ (List.mem_append_right _ (List.mem_append_right _ (List.mem_of_getElem? (i := 16) rfl))))), by decide +kernel⟩
theorem tw_t978 : tw (Jvm.Cond.instanceMethod ({ cls := "TestEmitterModel", name := "add", desc := "(Z)I" } : Jvm.MethodName)) := ⟨List.mem_append_right _ (List.mem_append_right _ (List.mem_append_right _ (List.mem_append_right _ (List.mem_append_right _ (List.mem_of_getElem? (i := 18) rfl))))), by decide +kernel⟩
theorem tw_t979 : tw (Jvm.Cond.code ({ cls := "TestEmitterModel", name := "add", desc := "(Z)I" } : Jvm.MethodName) prog_10_method_33_code (4 : Nat) (Option.some Jvm.ClassFile.FieldType.int)) := ⟨List.mem_append_right _ (List.mem_append_right _ (List.mem_append_right _ (List.mem_append_right _ (List.mem_append_right _ (List.mem_of_getElem? (i := 19) rfl))))), by decide +kernel⟩
theorem tw_t980 : tw (Jvm.Cond.methodLink "TestEmitterModel" (232 : Nat) ({ cls := "TestEmitterModel", name := "sameBody", desc := "(II)Z" } : Jvm.MethodName)) := ⟨List.mem_append_right _ (List.mem_append_right _ (List.mem_append_right _ (List.mem_append_right _ (List.mem_append_right _ (List.mem_of_getElem? (i := 20) rfl))))), by decide +kernel⟩
theorem tw_t982 : tw (Jvm.Cond.instanceMethod ({ cls := "TestEmitterModel", name := "sameBody", desc := "(II)Z" } : Jvm.MethodName)) := ⟨List.mem_append_right _ (List.mem_append_right _ (List.mem_append_right _ (List.mem_append_right _ (List.mem_append_right _ (List.mem_of_getElem? (i := 22) rfl))))), by decide +kernel⟩
theorem tw_t983 : tw (Jvm.Cond.code ({ cls := "TestEmitterModel", name := "sameBody", desc := "(II)Z" } : Jvm.MethodName) prog_10_method_35_code (4 : Nat) (Option.some Jvm.ClassFile.FieldType.boolean)) := ⟨List.mem_append_right _ (List.mem_append_right _ (List.mem_append_right _ (List.mem_append_right _ (List.mem_append_right _ (List.mem_of_getElem? (i := 23) rfl))))), by decide +kernel⟩
theorem tw_t984 : tw (Jvm.Cond.methodLink "TestEmitterModel" (236 : Nat) ({ cls := "TestEmitterModel", name := "bodyAt", desc := "(II)I" } : Jvm.MethodName)) := ⟨List.mem_append_right _ (List.mem_append_right _ (List.mem_append_right _ (List.mem_append_right _ (List.mem_append_right _ (List.mem_of_getElem? (i := 24) rfl))))), by decide +kernel⟩
theorem tw_t986 : tw (Jvm.Cond.instanceMethod ({ cls := "TestEmitterModel", name := "bodyAt", desc := "(II)I" } : Jvm.MethodName)) := ⟨List.mem_append_right _ (List.mem_append_right _ (List.mem_append_right _ (List.mem_append_right _ (List.mem_append_right _ (List.mem_of_getElem? (i := 26) rfl))))), by decide +kernel⟩
theorem tw_t987 : tw (Jvm.Cond.code ({ cls := "TestEmitterModel", name := "bodyAt", desc := "(II)I" } : Jvm.MethodName) prog_10_method_34_code (3 : Nat) (Option.some Jvm.ClassFile.FieldType.int)) := ⟨List.mem_append_right _ (List.mem_append_right _ (List.mem_append_right _ (List.mem_append_right _ (List.mem_append_right _ (List.mem_of_getElem? (i := 27) rfl))))), by decide +kernel⟩
theorem tw_t988 : tw (Jvm.Cond.methodLink "TestEmitterLaw" (54 : Nat) ({ cls := "TestEmitterModel", name := "threw", desc := "()I" } : Jvm.MethodName)) := ⟨List.mem_append_right _ (List.mem_append_right _ (List.mem_append_right _ (List.mem_append_right _ (List.mem_append_right _ (List.mem_of_getElem? (i := 28) rfl))))), by decide +kernel⟩
theorem tw_t989 : tw (Jvm.Cond.instanceMethod ({ cls := "TestEmitterModel", name := "threw", desc := "()I" } : Jvm.MethodName)) := ⟨List.mem_append_right _ (List.mem_append_right _ (List.mem_append_right _ (List.mem_append_right _ (List.mem_append_right _ (List.mem_of_getElem? (i := 29) rfl))))), by decide +kernel⟩
theorem tw_t990 : tw (Jvm.Cond.selects "TestEmitterModel" ({ cls := "TestEmitterModel", name := "threw", desc := "()I" } : Jvm.MethodName) ({ cls := "TestEmitterModel", name := "threw", desc := "()I" } : Jvm.MethodName)) := ⟨List.mem_append_right _ (List.mem_append_right _ (List.mem_append_right _ (List.mem_append_right _ (List.mem_append_right _ (List.mem_of_getElem? (i := 30) rfl))))), by decide +kernel⟩
theorem tw_t991 : tw (Jvm.Cond.code ({ cls := "TestEmitterModel", name := "threw", desc := "()I" } : Jvm.MethodName) prog_10_method_39_code (3 : Nat) (Option.some Jvm.ClassFile.FieldType.int)) := ⟨List.mem_append_right _ (List.mem_append_right _ (List.mem_append_right _ (List.mem_append_right _ (List.mem_append_right _ (List.mem_of_getElem? (i := 31) rfl))))), by decide +kernel⟩
theorem tw_t992 : tw (Jvm.Cond.methodLink "TestEmitterModel" (269 : Nat) ({ cls := "TestEmitterModel", name := "letters", desc := "()Z" } : Jvm.MethodName)) := ⟨List.mem_append_right _ (List.mem_append_right _ (List.mem_append_right _ (List.mem_append_right _ (List.mem_append_right _ (List.mem_of_getElem? (i := 32) rfl))))), by decide +kernel⟩
theorem tw_t994 : tw (Jvm.Cond.instanceMethod ({ cls := "TestEmitterModel", name := "letters", desc := "()Z" } : Jvm.MethodName)) := ⟨List.mem_append_right _ (List.mem_append_right _ (List.mem_append_right _ (List.mem_append_right _ (List.mem_append_right _ (List.mem_of_getElem? (i := 34) rfl))))), by decide +kernel⟩
theorem tw_t995 : tw (Jvm.Cond.code ({ cls := "TestEmitterModel", name := "letters", desc := "()Z" } : Jvm.MethodName) prog_10_method_37_code (2 : Nat) (Option.some Jvm.ClassFile.FieldType.boolean)) := ⟨List.mem_append_right _ (List.mem_append_right _ (List.mem_append_right _ (List.mem_append_right _ (List.mem_append_right _ (List.mem_of_getElem? (i := 35) rfl))))), by decide +kernel⟩
theorem tw_t996 : tw (Jvm.Cond.constantLong "TestEmitterModel" (273 : Nat) (8390902236154830880 : Int64)) := ⟨List.mem_append_right _ (List.mem_append_right _ (List.mem_append_right _ (List.mem_append_right _ (List.mem_append_right _ (List.mem_of_getElem? (i := 36) rfl))))), by decide +kernel⟩
theorem tw_t997 : tw (Jvm.Cond.constantLong "TestEmitterModel" (275 : Nat) (8224 : Int64)) := ⟨List.mem_append_right _ (List.mem_append_right _ (List.mem_append_right _ (List.mem_append_right _ (List.mem_append_right _ (List.mem_of_getElem? (i := 37) rfl))))), by decide +kernel⟩
theorem tw_t998 : tw (Jvm.Cond.constantLong "TestEmitterModel" (277 : Nat) (64914674688032 : Int64)) := ⟨List.mem_append_right _ (List.mem_append_right _ (List.mem_append_right _ (List.mem_append_right _ (List.mem_append_right _ (List.mem_of_getElem? (i := 38) rfl))))), by decide +kernel⟩
theorem tw_t999 : tw (Jvm.Cond.constantLong "TestEmitterModel" (279 : Nat) (112568566556706 : Int64)) := ⟨List.mem_append_right _ (List.mem_append_right _ (List.mem_append_right _ (List.mem_append_right _ (List.mem_append_right _ (List.mem_of_getElem? (i := 39) rfl))))), by decide +kernel⟩
theorem tw_t1000 : tw (Jvm.Cond.methodLink "TestEmitterModel" (281 : Nat) ({ cls := "TestEmitterModel", name := "name", desc := "(I)V" } : Jvm.MethodName)) := ⟨List.mem_append_right _ (List.mem_append_right _ (List.mem_append_right _ (List.mem_append_right _ (List.mem_append_right _ (List.mem_of_getElem? (i := 40) rfl))))), by decide +kernel⟩
theorem tw_t1002 : tw (Jvm.Cond.instanceMethod ({ cls := "TestEmitterModel", name := "name", desc := "(I)V" } : Jvm.MethodName)) := ⟨List.mem_append_right _ (List.mem_append_right _ (List.mem_append_right _ (List.mem_append_right _ (List.mem_append_right _ (List.mem_of_getElem? (i := 42) rfl))))), by decide +kernel⟩
theorem tw_t1003 : tw (Jvm.Cond.code ({ cls := "TestEmitterModel", name := "name", desc := "(I)V" } : Jvm.MethodName) prog_10_method_38_code (3 : Nat) (Option.none : Option Jvm.ClassFile.FieldType)) := ⟨List.mem_append_right _ (List.mem_append_right _ (List.mem_append_right _ (List.mem_append_right _ (List.mem_append_right _ (List.mem_of_getElem? (i := 43) rfl))))), by decide +kernel⟩
theorem tw_t1004 : tw (Jvm.Cond.constantLong "TestEmitterModel" (284 : Nat) (37560479546656 : Int64)) := ⟨List.mem_append_right _ (List.mem_append_right _ (List.mem_append_right _ (List.mem_append_right _ (List.mem_append_right _ (List.mem_of_getElem? (i := 44) rfl))))), by decide +kernel⟩
theorem tw_t1005 : tw (Jvm.Cond.constantLong "TestEmitterModel" (286 : Nat) (7161132852793321472 : Int64)) := ⟨List.mem_append_right _ (List.mem_append_right _ (List.mem_append_right _ (List.mem_append_right _ (List.mem_append_right _ (List.mem_of_getElem? (i := 45) rfl))))), by decide +kernel⟩
theorem tw_t1006 : tw (Jvm.Cond.constantLong "TestEmitterModel" (288 : Nat) (9118426567740029 : Int64)) := ⟨List.mem_append_right _ (List.mem_append_right _ (List.mem_append_right _ (List.mem_append_right _ (List.mem_append_right _ (List.mem_of_getElem? (i := 46) rfl))))), by decide +kernel⟩
theorem tw_t1007 : tw (Jvm.Cond.methodLink "TestEmitterLaw" (58 : Nat) ({ cls := "TestEmitterModel", name := "taken", desc := "()I" } : Jvm.MethodName)) := ⟨List.mem_append_right _ (List.mem_append_right _ (List.mem_append_right _ (List.mem_append_right _ (List.mem_append_right _ (List.mem_of_getElem? (i := 47) rfl))))), by decide +kernel⟩
theorem tw_t1008 : tw (Jvm.Cond.instanceMethod ({ cls := "TestEmitterModel", name := "taken", desc := "()I" } : Jvm.MethodName)) := ⟨List.mem_append_right _ (List.mem_append_right _ (List.mem_append_right _ (List.mem_append_right _ (List.mem_append_right _ (List.mem_of_getElem? (i := 48) rfl))))), by decide +kernel⟩
theorem tw_t1009 : tw (Jvm.Cond.selects "TestEmitterModel" ({ cls := "TestEmitterModel", name := "taken", desc := "()I" } : Jvm.MethodName) ({ cls := "TestEmitterModel", name := "taken", desc := "()I" } : Jvm.MethodName)) := ⟨List.mem_append_right _ (List.mem_append_right _ (List.mem_append_right _ (List.mem_append_right _ (List.mem_append_right _ (List.mem_of_getElem? (i := 49) rfl))))), by decide +kernel⟩
theorem tw_t1010 : tw (Jvm.Cond.code ({ cls := "TestEmitterModel", name := "taken", desc := "()I" } : Jvm.MethodName) prog_10_method_40_code (1 : Nat) (Option.some Jvm.ClassFile.FieldType.int)) := ⟨List.mem_append_right _ (List.mem_append_right _ (List.mem_append_right _ (List.mem_append_right _ (List.mem_append_right _ (List.mem_of_getElem? (i := 50) rfl))))), by decide +kernel⟩
theorem tw_t1011 : tw (Jvm.Cond.methodLink "TestEmitterLaw" (62 : Nat) ({ cls := "TestEmitterModel", name := "drop", desc := "()I" } : Jvm.MethodName)) := ⟨List.mem_append_right _ (List.mem_append_right _ (List.mem_append_right _ (List.mem_append_right _ (List.mem_append_right _ (List.mem_of_getElem? (i := 51) rfl))))), by decide +kernel⟩
theorem tw_t1012 : tw (Jvm.Cond.instanceMethod ({ cls := "TestEmitterModel", name := "drop", desc := "()I" } : Jvm.MethodName)) := ⟨List.mem_append_right _ (List.mem_append_right _ (List.mem_append_right _ (List.mem_append_right _ (List.mem_append_right _ (List.mem_of_getElem? (i := 52) rfl))))), by decide +kernel⟩
theorem tw_t1013 : tw (Jvm.Cond.selects "TestEmitterModel" ({ cls := "TestEmitterModel", name := "drop", desc := "()I" } : Jvm.MethodName) ({ cls := "TestEmitterModel", name := "drop", desc := "()I" } : Jvm.MethodName)) := ⟨List.mem_append_right _ (List.mem_append_right _ (List.mem_append_right _ (List.mem_append_right _ (List.mem_append_right _ (List.mem_of_getElem? (i := 53) rfl))))), by decide +kernel⟩
theorem tw_t1014 : tw (Jvm.Cond.code ({ cls := "TestEmitterModel", name := "drop", desc := "()I" } : Jvm.MethodName) prog_10_method_41_code (2 : Nat) (Option.some Jvm.ClassFile.FieldType.int)) := ⟨List.mem_append_right _ (List.mem_append_right _ (List.mem_append_right _ (List.mem_append_right _ (List.mem_append_right _ (List.mem_of_getElem? (i := 54) rfl))))), by decide +kernel⟩
theorem tw_t1015 : tw (Jvm.Cond.methodLink "TestEmitterLaw" (66 : Nat) ({ cls := "TestEmitterModel", name := "emit", desc := "()I" } : Jvm.MethodName)) := ⟨List.mem_append_right _ (List.mem_append_right _ (List.mem_append_right _ (List.mem_append_right _ (List.mem_append_right _ (List.mem_of_getElem? (i := 55) rfl))))), by decide +kernel⟩
theorem tw_t1016 : tw (Jvm.Cond.instanceMethod ({ cls := "TestEmitterModel", name := "emit", desc := "()I" } : Jvm.MethodName)) := ⟨List.mem_append_right _ (List.mem_append_right _ (List.mem_append_right _ (List.mem_append_right _ (List.mem_append_right _ (List.mem_of_getElem? (i := 56) rfl))))), by decide +kernel⟩
theorem tw_t1017 : tw (Jvm.Cond.selects "TestEmitterModel" ({ cls := "TestEmitterModel", name := "emit", desc := "()I" } : Jvm.MethodName) ({ cls := "TestEmitterModel", name := "emit", desc := "()I" } : Jvm.MethodName)) := ⟨List.mem_append_right _ (List.mem_append_right _ (List.mem_append_right _ (List.mem_append_right _ (List.mem_append_right _ (List.mem_of_getElem? (i := 57) rfl))))), by decide +kernel⟩
theorem tw_t1018 : tw (Jvm.Cond.code ({ cls := "TestEmitterModel", name := "emit", desc := "()I" } : Jvm.MethodName) prog_10_method_52_code (3 : Nat) (Option.some Jvm.ClassFile.FieldType.int)) := ⟨List.mem_append_right _ (List.mem_append_right _ (List.mem_append_right _ (List.mem_append_right _ (List.mem_append_right _ (List.mem_of_getElem? (i := 58) rfl))))), by decide +kernel⟩
theorem tw_t1019 : tw (Jvm.Cond.constantLong "TestEmitterModel" (311 : Nat) (8103491322287169635 : Int64)) := ⟨List.mem_append_right _ (List.mem_append_right _ (List.mem_append_right _ (List.mem_append_right _ (List.mem_append_right _ (List.mem_of_getElem? (i := 59) rfl))))), by decide +kernel⟩
theorem tw_t1020 : tw (Jvm.Cond.methodLink "TestEmitterModel" (313 : Nat) ({ cls := "TestEmitterModel", name := "outWord", desc := "(J)V" } : Jvm.MethodName)) := ⟨List.mem_append_right _ (List.mem_append_right _ (List.mem_append_right _ (List.mem_append_right _ (List.mem_append_right _ (List.mem_of_getElem? (i := 60) rfl))))), by decide +kernel⟩
theorem tw_t1022 : tw (Jvm.Cond.instanceMethod ({ cls := "TestEmitterModel", name := "outWord", desc := "(J)V" } : Jvm.MethodName)) := ⟨List.mem_append_right _ (List.mem_append_right _ (List.mem_append_right _ (List.mem_append_right _ (List.mem_append_right _ (List.mem_of_getElem? (i := 62) rfl))))), by decide +kernel⟩
theorem tw_t1023 : tw (Jvm.Cond.code ({ cls := "TestEmitterModel", name := "outWord", desc := "(J)V" } : Jvm.MethodName) prog_10_method_45_code (4 : Nat) (Option.none : Option Jvm.ClassFile.FieldType)) := ⟨List.mem_append_right _ (List.mem_append_right _ (List.mem_append_right _ (List.mem_append_right _ (List.mem_append_right _ (List.mem_of_getElem? (i := 63) rfl))))), by decide +kernel⟩
theorem tw_t1024 : tw (Jvm.Cond.methodLink "TestEmitterModel" (293 : Nat) ({ cls := "TestEmitterModel", name := "out", desc := "(I)V" } : Jvm.MethodName)) := ⟨List.mem_append_right _ (List.mem_append_right _ (List.mem_append_right _ (List.mem_append_right _ (List.mem_append_right _ (List.mem_of_getElem? (i := 64) rfl))))), by decide +kernel⟩
theorem tw_t1026 : tw (Jvm.Cond.instanceMethod ({ cls := "TestEmitterModel", name := "out", desc := "(I)V" } : Jvm.MethodName)) := ⟨List.mem_append_right _ (List.mem_append_right _ (List.mem_append_right _ (List.mem_append_right _ (List.mem_append_right _ (List.mem_of_getElem? (i := 66) rfl))))), by decide +kernel⟩
theorem tw_t1027 : tw (Jvm.Cond.code ({ cls := "TestEmitterModel", name := "out", desc := "(I)V" } : Jvm.MethodName) prog_10_method_44_code (2 : Nat) (Option.none : Option Jvm.ClassFile.FieldType)) := ⟨List.mem_append_right _ (List.mem_append_right _ (List.mem_append_right _ (List.mem_append_right _ (List.mem_append_right _ (List.mem_of_getElem? (i := 67) rfl))))), by decide +kernel⟩
theorem tw_t1028 : tw (Jvm.Cond.methodLink "TestEmitterModel" (290 : Nat) ({ cls := "TestEmitterModel", name := "setText", desc := "(II)V" } : Jvm.MethodName)) := ⟨List.mem_append_right _ (List.mem_append_right _ (List.mem_append_right _ (List.mem_append_right _ (List.mem_append_right _ (List.mem_of_getElem? (i := 68) rfl))))), by decide +kernel⟩
theorem tw_t1030 : tw (Jvm.Cond.instanceMethod ({ cls := "TestEmitterModel", name := "setText", desc := "(II)V" } : Jvm.MethodName)) := ⟨List.mem_append_right _ (List.mem_append_right _ (List.mem_append_right _ (List.mem_append_right _ (List.mem_append_right _ (List.mem_of_getElem? (i := 70) rfl))))), by decide +kernel⟩
theorem tw_t1031 : tw (Jvm.Cond.code ({ cls := "TestEmitterModel", name := "setText", desc := "(II)V" } : Jvm.MethodName) prog_10_method_43_code (3 : Nat) (Option.none : Option Jvm.ClassFile.FieldType)) := ⟨List.mem_append_right _ (List.mem_append_right _ (List.mem_append_right _ (List.mem_append_right _ (List.mem_append_right _ (List.mem_of_getElem? (i := 71) rfl))))), by decide +kernel⟩
theorem tw_t1032 : tw (Jvm.Cond.constantLong "TestEmitterModel" (316 : Nat) (465491424032 : Int64)) := ⟨List.mem_append_right _ (List.mem_append_right _ (List.mem_append_right _ (List.mem_append_right _ (List.mem_append_right _ (List.mem_of_getElem? (i := 72) rfl))))), by decide +kernel⟩
theorem tw_t1033 : tw (Jvm.Cond.constantLong "TestEmitterModel" (318 : Nat) (6080266760336200805 : Int64)) := ⟨List.mem_append_right _ (List.mem_append_right _ (List.mem_append_right _ (List.mem_append_right _ (List.mem_append_right _ (List.mem_of_getElem? (i := 73) rfl))))), by decide +kernel⟩
theorem tw_t1034 : tw (Jvm.Cond.constantLong "TestEmitterModel" (320 : Nat) (1936990331 : Int64)) := ⟨List.mem_append_right _ (List.mem_append_right _ (List.mem_append_right _ (List.mem_append_right _ (List.mem_append_right _ (List.mem_of_getElem? (i := 74) rfl))))), by decide +kernel⟩
theorem tw_t1035 : tw (Jvm.Cond.methodLink "TestEmitterModel" (302 : Nat) ({ cls := "TestEmitterModel", name := "endLine", desc := "(I)V" } : Jvm.MethodName)) := ⟨List.mem_append_right _ (List.mem_append_right _ (List.mem_append_right _ (List.mem_append_right _ (List.mem_append_right _ (List.mem_of_getElem? (i := 75) rfl))))), by decide +kernel⟩
theorem tw_t1037 : tw (Jvm.Cond.instanceMethod ({ cls := "TestEmitterModel", name := "endLine", desc := "(I)V" } : Jvm.MethodName)) := ⟨List.mem_append_right _ (List.mem_append_right _ (List.mem_append_right _ (List.mem_append_right _ (List.mem_append_right _ (List.mem_of_getElem? (i := 77) rfl))))), by decide +kernel⟩
theorem tw_t1038 : tw (Jvm.Cond.code ({ cls := "TestEmitterModel", name := "endLine", desc := "(I)V" } : Jvm.MethodName) prog_10_method_47_code (2 : Nat) (Option.none : Option Jvm.ClassFile.FieldType)) := ⟨List.mem_append_right _ (List.mem_append_right _ (List.mem_append_right _ (List.mem_append_right _ (List.mem_append_right _ (List.mem_of_getElem? (i := 78) rfl))))), by decide +kernel⟩
theorem tw_t1039 : tw (Jvm.Cond.methodLink "TestEmitterModel" (305 : Nat) ({ cls := "TestEmitterModel", name := "blanks", desc := "(I)V" } : Jvm.MethodName)) := ⟨List.mem_append_right _ (List.mem_append_right _ (List.mem_append_right _ (List.mem_append_right _ (List.mem_append_right _ (List.mem_of_getElem? (i := 79) rfl))))), by decide +kernel⟩
theorem tw_t1041 : tw (Jvm.Cond.instanceMethod ({ cls := "TestEmitterModel", name := "blanks", desc := "(I)V" } : Jvm.MethodName)) := ⟨List.mem_append_right _ (List.mem_append_right _ (List.mem_append_right _ (List.mem_append_right _ (List.mem_append_right _ (List.mem_of_getElem? (i := 81) rfl))))), by decide +kernel⟩
theorem tw_t1042 : tw (Jvm.Cond.code ({ cls := "TestEmitterModel", name := "blanks", desc := "(I)V" } : Jvm.MethodName) prog_10_method_46_code (3 : Nat) (Option.none : Option Jvm.ClassFile.FieldType)) := ⟨List.mem_append_right _ (List.mem_append_right _ (List.mem_append_right _ (List.mem_append_right _ (List.mem_append_right _ (List.mem_of_getElem? (i := 82) rfl))))), by decide +kernel⟩
theorem tw_t1043 : tw (Jvm.Cond.constantLong "TestEmitterModel" (322 : Nat) (276293841780 : Int64)) := ⟨List.mem_append_right _ (List.mem_append_right _ (List.mem_append_right _ (List.mem_append_right _ (List.mem_append_right _ (List.mem_of_getElem? (i := 83) rfl))))), by decide +kernel⟩
theorem tw_t1044 : tw (Jvm.Cond.constantLong "TestEmitterModel" (324 : Nat) (8103491322287169654 : Int64)) := ⟨List.mem_append_right _ (List.mem_append_right _ (List.mem_append_right _ (List.mem_append_right _ (List.mem_append_right _ (List.mem_of_getElem? (i := 84) rfl))))), by decide +kernel⟩
theorem tw_t1045 : tw (Jvm.Cond.constantLong "TestEmitterModel" (326 : Nat) (8028057901319156596 : Int64)) := ⟨List.mem_append_right _ (List.mem_append_right _ (List.mem_append_right _ (List.mem_append_right _ (List.mem_append_right _ (List.mem_of_getElem? (i := 85) rfl))))), by decide +kernel⟩
theorem tw_t1046 : tw (Jvm.Cond.methodLink "TestEmitterModel" (328 : Nat) ({ cls := "TestEmitterModel", name := "outNumber", desc := "(I)V" } : Jvm.MethodName)) := ⟨List.mem_append_right _ (List.mem_append_right _ (List.mem_append_right _ (List.mem_append_right _ (List.mem_append_right _ (List.mem_of_getElem? (i := 86) rfl))))), by decide +kernel⟩
theorem tw_t1048 : tw (Jvm.Cond.instanceMethod ({ cls := "TestEmitterModel", name := "outNumber", desc := "(I)V" } : Jvm.MethodName)) := ⟨List.mem_append_right _ (List.mem_append_right _ (List.mem_append_right _ (List.mem_append_right _ (List.mem_append_right _ (List.mem_of_getElem? (i := 88) rfl))))), by decide +kernel⟩
theorem tw_t1049 : tw (Jvm.Cond.code ({ cls := "TestEmitterModel", name := "outNumber", desc := "(I)V" } : Jvm.MethodName) prog_10_method_51_code (2 : Nat) (Option.none : Option Jvm.ClassFile.FieldType)) := ⟨List.mem_append_right _ (List.mem_append_right _ (List.mem_append_right _ (List.mem_append_right _ (List.mem_append_right _ (List.mem_of_getElem? (i := 89) rfl))))), by decide +kernel⟩
theorem tw_t1050 : tw (Jvm.Cond.constantLong "TestEmitterModel" (331 : Nat) (673783931 : Int64)) := ⟨List.mem_append_right _ (List.mem_append_right _ (List.mem_append_right _ (List.mem_append_right _ (List.mem_append_right _ (List.mem_of_getElem? (i := 90) rfl))))), by decide +kernel⟩
theorem tw_t1051 : tw (Jvm.Cond.methodLink "TestEmitterModel" (333 : Nat) ({ cls := "TestEmitterModel", name := "outBody", desc := "(I)V" } : Jvm.MethodName)) := ⟨List.mem_append_right _ (List.mem_append_right _ (List.mem_append_right _ (List.mem_append_right _ (List.mem_append_right _ (List.mem_of_getElem? (i := 91) rfl))))), by decide +kernel⟩
theorem tw_t1053 : tw (Jvm.Cond.instanceMethod ({ cls := "TestEmitterModel", name := "outBody", desc := "(I)V" } : Jvm.MethodName)) := ⟨List.mem_append_right _ (List.mem_append_right _ (List.mem_append_right _ (List.mem_append_right _ (List.mem_append_right _ (List.mem_of_getElem? (i := 93) rfl))))), by decide +kernel⟩
theorem tw_t1054 : tw (Jvm.Cond.code ({ cls := "TestEmitterModel", name := "outBody", desc := "(I)V" } : Jvm.MethodName) prog_10_method_50_code (5 : Nat) (Option.none : Option Jvm.ClassFile.FieldType)) := ⟨List.mem_append_right _ (List.mem_append_right _ (List.mem_append_right _ (List.mem_append_right _ (List.mem_append_right _ (List.mem_of_getElem? (i := 94) rfl))))), by decide +kernel⟩
theorem tw_t1055 : tw (Jvm.Cond.methodLink "TestEmitterModel" (308 : Nat) ({ cls := "TestEmitterModel", name := "endBroken", desc := "(I)V" } : Jvm.MethodName)) := ⟨List.mem_append_right _ (List.mem_append_right _ (List.mem_append_right _ (List.mem_append_right _ (List.mem_append_right _ (List.mem_of_getElem? (i := 95) rfl))))), by decide +kernel⟩
theorem tw_t1057 : tw (Jvm.Cond.instanceMethod ({ cls := "TestEmitterModel", name := "endBroken", desc := "(I)V" } : Jvm.MethodName)) := ⟨List.mem_append_right _ (List.mem_append_right _ (List.mem_append_right _ (List.mem_append_right _ (List.mem_append_right _ (List.mem_of_getElem? (i := 97) rfl))))), by decide +kernel⟩
theorem tw_t1058 : tw (Jvm.Cond.code ({ cls := "TestEmitterModel", name := "endBroken", desc := "(I)V" } : Jvm.MethodName) prog_10_method_49_code (10 : Nat) (Option.none : Option Jvm.ClassFile.FieldType)) := ⟨List.mem_append_right _ (List.mem_append_right _ (List.mem_append_right _ (List.mem_append_right _ (List.mem_append_right _ (List.mem_of_getElem? (i := 98) rfl))))), by decide +kernel⟩
theorem tw_t1059 : tw (Jvm.Cond.methodLink "TestEmitterModel" (296 : Nat) ({ cls := "TestEmitterModel", name := "textAt", desc := "(I)I" } : Jvm.MethodName)) := ⟨List.mem_append_right _ (List.mem_append_right _ (List.mem_append_right _ (List.mem_append_right _ (List.mem_append_right _ (List.mem_of_getElem? (i := 99) rfl))))), by decide +kernel⟩
theorem tw_t1061 : tw (Jvm.Cond.instanceMethod ({ cls := "TestEmitterModel", name := "textAt", desc := "(I)I" } : Jvm.MethodName)) := ⟨List.mem_append_right _ (List.mem_append_right _ (List.mem_append_right _ (List.mem_append_right _ (List.mem_append_right _ (List.mem_of_getElem? (i := 101) rfl))))), by decide +kernel⟩
theorem tw_t1062 : tw (Jvm.Cond.code ({ cls := "TestEmitterModel", name := "textAt", desc := "(I)I" } : Jvm.MethodName) prog_10_method_42_code (2 : Nat) (Option.some Jvm.ClassFile.FieldType.int)) := ⟨List.mem_append_right _ (List.mem_append_right _ (List.mem_append_right _ (List.mem_append_right _ (List.mem_append_right _ (List.mem_of_getElem? (i := 102) rfl))))), by decide +kernel⟩
theorem tw_t1063 : tw (Jvm.Cond.methodLink "TestEmitterModel" (299 : Nat) ({ cls := "TestEmitterModel", name := "comma", desc := "(II)I" } : Jvm.MethodName)) := ⟨List.mem_append_right _ (List.mem_append_right _ (List.mem_append_right _ (List.mem_append_right _ (List.mem_append_right _ (List.mem_of_getElem? (i := 103) rfl))))), by decide +kernel⟩
theorem tw_t1065 : tw (Jvm.Cond.instanceMethod ({ cls := "TestEmitterModel", name := "comma", desc := "(II)I" } : Jvm.MethodName)) := ⟨List.mem_append_right _ (List.mem_append_right _ (List.mem_append_right _ (List.mem_append_right _ (List.mem_append_right _ (List.mem_of_getElem? (i := 105) rfl))))), by decide +kernel⟩
theorem tw_t1066 : tw (Jvm.Cond.code ({ cls := "TestEmitterModel", name := "comma", desc := "(II)I" } : Jvm.MethodName) prog_10_method_48_code (7 : Nat) (Option.some Jvm.ClassFile.FieldType.int)) := ⟨List.mem_append_right _ (List.mem_append_right _ (List.mem_append_right _ (List.mem_append_right _ (List.mem_append_right _ (List.mem_of_getElem? (i := 106) rfl))))), by decide +kernel⟩
theorem tw_t1067 : tw (Jvm.Cond.methodLink "TestEmitterLaw" (70 : Nat) ({ cls := "TestEmitterModel", name := "at", desc := "(I)I" } : Jvm.MethodName)) := ⟨List.mem_append_right _ (List.mem_append_right _ (List.mem_append_right _ (List.mem_append_right _ (List.mem_append_right _ (List.mem_of_getElem? (i := 107) rfl))))), by decide +kernel⟩
theorem tw_t1068 : tw (Jvm.Cond.instanceMethod ({ cls := "TestEmitterModel", name := "at", desc := "(I)I" } : Jvm.MethodName)) := ⟨List.mem_append_right _ (List.mem_append_right _ (List.mem_append_right _ (List.mem_append_right _ (List.mem_append_right _ (List.mem_of_getElem? (i := 108) rfl))))), by decide +kernel⟩
theorem tw_t1069 : tw (Jvm.Cond.selects "TestEmitterModel" ({ cls := "TestEmitterModel", name := "at", desc := "(I)I" } : Jvm.MethodName) ({ cls := "TestEmitterModel", name := "at", desc := "(I)I" } : Jvm.MethodName)) := ⟨List.mem_append_right _ (List.mem_append_right _ (List.mem_append_right _ (List.mem_append_right _ (List.mem_append_right _ (List.mem_of_getElem? (i := 109) rfl))))), by decide +kernel⟩
theorem tw_t1070 : tw (Jvm.Cond.code ({ cls := "TestEmitterModel", name := "at", desc := "(I)I" } : Jvm.MethodName) prog_10_method_53_code (2 : Nat) (Option.some Jvm.ClassFile.FieldType.int)) := ⟨List.mem_append_right _ (List.mem_append_right _ (List.mem_append_right _ (List.mem_append_right _ (List.mem_append_right _ (List.mem_of_getElem? (i := 110) rfl))))), by decide +kernel⟩
theorem tw_t1071 : tw (Jvm.Cond.methodLink "TestEmitterLaw" (74 : Nat) ({ cls := "TestEmitterModel", name := "line", desc := "(I)I" } : Jvm.MethodName)) := ⟨List.mem_append_right _ (List.mem_append_right _ (List.mem_append_right _ (List.mem_append_right _ (List.mem_append_right _ (List.mem_of_getElem? (i := 111) rfl))))), by decide +kernel⟩
theorem tw_t1072 : tw (Jvm.Cond.instanceMethod ({ cls := "TestEmitterModel", name := "line", desc := "(I)I" } : Jvm.MethodName)) := ⟨List.mem_append_right _ (List.mem_append_right _ (List.mem_append_right _ (List.mem_append_right _ (List.mem_append_right _ (List.mem_of_getElem? (i := 112) rfl))))), by decide +kernel⟩
theorem tw_t1073 : tw (Jvm.Cond.selects "TestEmitterModel" ({ cls := "TestEmitterModel", name := "line", desc := "(I)I" } : Jvm.MethodName) ({ cls := "TestEmitterModel", name := "line", desc := "(I)I" } : Jvm.MethodName)) := ⟨List.mem_append_right _ (List.mem_append_right _ (List.mem_append_right _ (List.mem_append_right _ (List.mem_append_right _ (List.mem_of_getElem? (i := 113) rfl))))), by decide +kernel⟩
theorem tw_t1074 : tw (Jvm.Cond.code ({ cls := "TestEmitterModel", name := "line", desc := "(I)I" } : Jvm.MethodName) prog_10_method_54_code (4 : Nat) (Option.some Jvm.ClassFile.FieldType.int)) := ⟨List.mem_append_right _ (List.mem_append_right _ (List.mem_append_right _ (List.mem_append_right _ (List.mem_append_right _ (List.mem_of_getElem? (i := 114) rfl))))), by decide +kernel⟩
theorem tw_t1075 : tw (Jvm.Cond.methodLink "TestEmitterLaw" (78 : Nat) ({ cls := "TestEmitterModel", name := "count", desc := "(I)I" } : Jvm.MethodName)) := ⟨List.mem_append_right _ (List.mem_append_right _ (List.mem_append_right _ (List.mem_append_right _ (List.mem_append_right _ (List.mem_of_getElem? (i := 115) rfl))))), by decide +kernel⟩
theorem tw_t1076 : tw (Jvm.Cond.instanceMethod ({ cls := "TestEmitterModel", name := "count", desc := "(I)I" } : Jvm.MethodName)) := ⟨List.mem_append_right _ (List.mem_append_right _ (List.mem_append_right _ (List.mem_append_right _ (List.mem_append_right _ (List.mem_of_getElem? (i := 116) rfl))))), by decide +kernel⟩
theorem tw_t1077 : tw (Jvm.Cond.selects "TestEmitterModel" ({ cls := "TestEmitterModel", name := "count", desc := "(I)I" } : Jvm.MethodName) ({ cls := "TestEmitterModel", name := "count", desc := "(I)I" } : Jvm.MethodName)) := ⟨List.mem_append_right _ (List.mem_append_right _ (List.mem_append_right _ (List.mem_append_right _ (List.mem_append_right _ (List.mem_of_getElem? (i := 117) rfl))))), by decide +kernel⟩
theorem tw_t1078 : tw (Jvm.Cond.code ({ cls := "TestEmitterModel", name := "count", desc := "(I)I" } : Jvm.MethodName) prog_10_method_55_code (4 : Nat) (Option.some Jvm.ClassFile.FieldType.int)) := ⟨List.mem_append_right _ (List.mem_append_right _ (List.mem_append_right _ (List.mem_append_right _ (List.mem_append_right _ (List.mem_of_getElem? (i := 118) rfl))))), by decide +kernel⟩
theorem tw_t1079 : tw (Jvm.Cond.fieldLink "java/lang/String" (15 : Nat) "java/lang/String" "coder" "B") := ⟨List.mem_append_right _ (List.mem_append_right _ (List.mem_append_right _ (List.mem_append_right _ (List.mem_append_right _ (List.mem_of_getElem? (i := 119) rfl))))), by decide +kernel⟩
theorem tw_t1080 : tw (Jvm.Cond.fieldLink "java/lang/String" (9 : Nat) "java/lang/String" "value" "[B") := ⟨List.mem_append_right _ (List.mem_append_right _ (List.mem_append_right _ (List.mem_append_right _ (List.mem_append_right _ (List.mem_of_getElem? (i := 120) rfl))))), by decide +kernel⟩
theorem mf_1 : sm_M 1 := ⟨tw_t21, by decide +kernel, ⟨by decide +kernel, by decide +kernel⟩, by decide +kernel, tw_t1, by decide +kernel⟩
theorem mf_2 : sm_M 2 := ⟨tw_t29, by decide +kernel, ⟨by decide +kernel, by decide +kernel⟩, by decide +kernel, tw_t2, by decide +kernel⟩
theorem mf_3 : sm_M 3 := ⟨tw_t43, by decide +kernel, ⟨by decide +kernel, by decide +kernel⟩, by decide +kernel, tw_t3, by decide +kernel⟩
theorem mf_4 : sm_M 4 := ⟨tw_t58, by decide +kernel, ⟨by decide +kernel, by decide +kernel⟩, by decide +kernel, tw_t4, by decide +kernel⟩
theorem mf_5 : sm_M 5 := ⟨tw_t74, by decide +kernel, ⟨by decide +kernel, by decide +kernel⟩, by decide +kernel, tw_t5, by decide +kernel⟩
theorem mf_6 : sm_M 6 := ⟨tw_t80, by decide +kernel, ⟨by decide +kernel, by decide +kernel⟩, by decide +kernel, tw_t6, by decide +kernel⟩
theorem mf_7 : sm_M 7 := ⟨tw_t107, by decide +kernel, ⟨by decide +kernel, by decide +kernel⟩, by decide +kernel, tw_t7, by decide +kernel⟩
theorem mf_8 : sm_M 8 := ⟨tw_t131, by decide +kernel, ⟨by decide +kernel, by decide +kernel⟩, by decide +kernel, tw_t8, by decide +kernel⟩
theorem mf_9 : sm_M 9 := ⟨tw_t191, by decide +kernel, ⟨by decide +kernel, by decide +kernel⟩, by decide +kernel, tw_t1, by decide +kernel⟩
theorem mf_10 : sm_M 10 := ⟨tw_t195, by decide +kernel, ⟨by decide +kernel, by decide +kernel⟩, by decide +kernel, tw_t2, by decide +kernel⟩
theorem mf_11 : sm_M 11 := ⟨tw_t199, by decide +kernel, ⟨by decide +kernel, by decide +kernel⟩, by decide +kernel, tw_t2, by decide +kernel⟩
theorem mf_12 : sm_M 12 := ⟨tw_t206, by decide +kernel, ⟨by decide +kernel, by decide +kernel⟩, by decide +kernel, tw_t1, by decide +kernel⟩
theorem mf_13 : sm_M 13 := ⟨tw_t210, by decide +kernel, ⟨by decide +kernel, by decide +kernel⟩, by decide +kernel, tw_t1, by decide +kernel⟩
theorem mf_14 : sm_M 14 := ⟨tw_t213, by decide +kernel, ⟨by decide +kernel, by decide +kernel⟩, by decide +kernel, tw_t3, by decide +kernel⟩
theorem mf_15 : sm_M 15 := ⟨tw_t219, by decide +kernel, ⟨by decide +kernel, by decide +kernel⟩, by decide +kernel, tw_t4, by decide +kernel⟩
theorem mf_16 : sm_M 16 := ⟨tw_t224, by decide +kernel, ⟨by decide +kernel, by decide +kernel⟩, by decide +kernel, tw_t2, by decide +kernel⟩
theorem mf_17 : sm_M 17 := ⟨tw_t313, by decide +kernel, ⟨by decide +kernel, by decide +kernel⟩, by decide +kernel, tw_t4, by decide +kernel⟩
theorem mf_18 : sm_M 18 := ⟨tw_t317, by decide +kernel, ⟨by decide +kernel, by decide +kernel⟩, by decide +kernel, tw_t2, by decide +kernel⟩
theorem mf_19 : sm_M 19 := ⟨tw_t321, by decide +kernel, ⟨by decide +kernel, by decide +kernel⟩, by decide +kernel, tw_t5, by decide +kernel⟩
theorem mf_20 : sm_M 20 := ⟨tw_t325, by decide +kernel, ⟨by decide +kernel, by decide +kernel⟩, by decide +kernel, tw_t3, by decide +kernel⟩
theorem mf_21 : sm_M 21 := ⟨tw_t330, by decide +kernel, ⟨by decide +kernel, by decide +kernel⟩, by decide +kernel, tw_t1, by decide +kernel⟩
theorem mf_22 : sm_M 22 := ⟨tw_t334, by decide +kernel, ⟨by decide +kernel, by decide +kernel⟩, by decide +kernel, tw_t1, by decide +kernel⟩
theorem mf_23 : sm_M 23 := ⟨tw_t337, by decide +kernel, ⟨by decide +kernel, by decide +kernel⟩, by decide +kernel, tw_t4, by decide +kernel⟩
theorem mf_24 : sm_M 24 := ⟨tw_t342, by decide +kernel, ⟨by decide +kernel, by decide +kernel⟩, by decide +kernel, tw_t2, by decide +kernel⟩
theorem mf_25 : sm_M 25 := ⟨tw_t369, by decide +kernel, ⟨by decide +kernel, by decide +kernel⟩, by decide +kernel, tw_t1, by decide +kernel⟩
theorem mf_26 : sm_M 26 := ⟨tw_t373, by decide +kernel, ⟨by decide +kernel, by decide +kernel⟩, by decide +kernel, tw_t5, by decide +kernel⟩
theorem mf_27 : sm_M 27 := ⟨tw_t377, by decide +kernel, ⟨by decide +kernel, by decide +kernel⟩, by decide +kernel, tw_t6, by decide +kernel⟩
theorem mf_28 : sm_M 28 := ⟨tw_t381, by decide +kernel, ⟨by decide +kernel, by decide +kernel⟩, by decide +kernel, tw_t6, by decide +kernel⟩
theorem mf_29 : sm_M 29 := ⟨tw_t385, by decide +kernel, ⟨by decide +kernel, by decide +kernel⟩, by decide +kernel, tw_t1, by decide +kernel⟩
theorem mf_30 : sm_M 30 := ⟨tw_t389, by decide +kernel, ⟨by decide +kernel, by decide +kernel⟩, by decide +kernel, tw_t6, by decide +kernel⟩
theorem mf_31 : sm_M 31 := ⟨tw_t393, by decide +kernel, ⟨by decide +kernel, by decide +kernel⟩, by decide +kernel, tw_t1, by decide +kernel⟩
theorem mf_32 : sm_M 32 := ⟨tw_t397, by decide +kernel, ⟨by decide +kernel, by decide +kernel⟩, by decide +kernel, tw_t7, by decide +kernel⟩
theorem mf_33 : sm_M 33 := ⟨tw_t401, by decide +kernel, ⟨by decide +kernel, by decide +kernel⟩, by decide +kernel, tw_t5, by decide +kernel⟩
theorem mf_34 : sm_M 34 := ⟨tw_t405, by decide +kernel, ⟨by decide +kernel, by decide +kernel⟩, by decide +kernel, tw_t6, by decide +kernel⟩
theorem mf_35 : sm_M 35 := ⟨tw_t411, by decide +kernel, ⟨by decide +kernel, by decide +kernel⟩, by decide +kernel, tw_t2, by decide +kernel⟩
theorem mf_36 : sm_M 36 := ⟨tw_t416, by decide +kernel, ⟨by decide +kernel, by decide +kernel⟩, by decide +kernel, tw_t5, by decide +kernel⟩
theorem mf_37 : sm_M 37 := ⟨tw_t420, by decide +kernel, ⟨by decide +kernel, by decide +kernel⟩, by decide +kernel, tw_t5, by decide +kernel⟩
theorem mf_38 : sm_M 38 := ⟨tw_t425, by decide +kernel, ⟨by decide +kernel, by decide +kernel⟩, by decide +kernel, tw_t3, by decide +kernel⟩
theorem mf_39 : sm_M 39 := ⟨tw_t429, by decide +kernel, ⟨by decide +kernel, by decide +kernel⟩, by decide +kernel, tw_t5, by decide +kernel⟩
theorem mf_40 : sm_M 40 := ⟨tw_t434, by decide +kernel, ⟨by decide +kernel, by decide +kernel⟩, by decide +kernel, tw_t6, by decide +kernel⟩
theorem mf_41 : sm_M 41 := ⟨tw_t438, by decide +kernel, ⟨by decide +kernel, by decide +kernel⟩, by decide +kernel, tw_t4, by decide +kernel⟩
theorem mf_42 : sm_M 42 := ⟨tw_t442, by decide +kernel, ⟨by decide +kernel, by decide +kernel⟩, by decide +kernel, tw_t5, by decide +kernel⟩
theorem mf_43 : sm_M 43 := ⟨tw_t446, by decide +kernel, ⟨by decide +kernel, by decide +kernel⟩, by decide +kernel, tw_t6, by decide +kernel⟩
theorem mf_44 : sm_M 44 := ⟨tw_t453, by decide +kernel, ⟨by decide +kernel, by decide +kernel⟩, by decide +kernel, tw_t4, by decide +kernel⟩
theorem mf_45 : sm_M 45 := ⟨tw_t457, by decide +kernel, ⟨by decide +kernel, by decide +kernel⟩, by decide +kernel, tw_t4, by decide +kernel⟩
theorem mf_46 : sm_M 46 := ⟨tw_t475, by decide +kernel, ⟨by decide +kernel, by decide +kernel⟩, by decide +kernel, tw_t4, by decide +kernel⟩
theorem mf_47 : sm_M 47 := ⟨tw_t482, by decide +kernel, ⟨by decide +kernel, by decide +kernel⟩, by decide +kernel, tw_t2, by decide +kernel⟩
theorem mf_48 : sm_M 48 := ⟨tw_t492, by decide +kernel, ⟨by decide +kernel, by decide +kernel⟩, by decide +kernel, tw_t5, by decide +kernel⟩
theorem mf_49 : sm_M 49 := ⟨tw_t502, by decide +kernel, ⟨by decide +kernel, by decide +kernel⟩, by decide +kernel, tw_t5, by decide +kernel⟩
theorem mf_50 : sm_M 50 := ⟨tw_t508, by decide +kernel, ⟨by decide +kernel, by decide +kernel⟩, by decide +kernel, tw_t5, by decide +kernel⟩
theorem mf_51 : sm_M 51 := ⟨tw_t514, by decide +kernel, ⟨by decide +kernel, by decide +kernel⟩, by decide +kernel, tw_t5, by decide +kernel⟩
theorem mf_52 : sm_M 52 := ⟨tw_t520, by decide +kernel, ⟨by decide +kernel, by decide +kernel⟩, by decide +kernel, tw_t5, by decide +kernel⟩
theorem mf_53 : sm_M 53 := ⟨tw_t524, by decide +kernel, ⟨by decide +kernel, by decide +kernel⟩, by decide +kernel, tw_t4, by decide +kernel⟩
theorem mf_54 : sm_M 54 := ⟨tw_t528, by decide +kernel, ⟨by decide +kernel, by decide +kernel⟩, by decide +kernel, tw_t5, by decide +kernel⟩
theorem mf_55 : sm_M 55 := ⟨tw_t533, by decide +kernel, ⟨by decide +kernel, by decide +kernel⟩, by decide +kernel, tw_t5, by decide +kernel⟩
theorem mf_56 : sm_M 56 := ⟨tw_t537, by decide +kernel, ⟨by decide +kernel, by decide +kernel⟩, by decide +kernel, tw_t4, by decide +kernel⟩
theorem mf_57 : sm_M 57 := ⟨tw_t541, by decide +kernel, ⟨by decide +kernel, by decide +kernel⟩, by decide +kernel, tw_t6, by decide +kernel⟩
theorem mf_58 : sm_M 58 := ⟨tw_t545, by decide +kernel, ⟨by decide +kernel, by decide +kernel⟩, by decide +kernel, tw_t1, by decide +kernel⟩
theorem mf_59 : sm_M 59 := ⟨tw_t550, by decide +kernel, ⟨by decide +kernel, by decide +kernel⟩, by decide +kernel, tw_t2, by decide +kernel⟩
theorem mf_60 : sm_M 60 := ⟨tw_t554, by decide +kernel, ⟨by decide +kernel, by decide +kernel⟩, by decide +kernel, tw_t2, by decide +kernel⟩
theorem mf_61 : sm_M 61 := ⟨tw_t575, by decide +kernel, ⟨by decide +kernel, by decide +kernel⟩, by decide +kernel, tw_t1, by decide +kernel⟩
theorem mf_62 : sm_M 62 := ⟨tw_t579, by decide +kernel, ⟨by decide +kernel, by decide +kernel⟩, by decide +kernel, tw_t7, by decide +kernel⟩
theorem mf_63 : sm_M 63 := ⟨tw_t583, by decide +kernel, ⟨by decide +kernel, by decide +kernel⟩, by decide +kernel, tw_t2, by decide +kernel⟩
theorem mf_64 : sm_M 64 := ⟨tw_t587, by decide +kernel, ⟨by decide +kernel, by decide +kernel⟩, by decide +kernel, tw_t7, by decide +kernel⟩
theorem mf_65 : sm_M 65 := ⟨tw_t595, by decide +kernel, ⟨by decide +kernel, by decide +kernel⟩, by decide +kernel, tw_t1, by decide +kernel⟩
theorem mf_66 : sm_M 66 := ⟨tw_t599, by decide +kernel, ⟨by decide +kernel, by decide +kernel⟩, by decide +kernel, tw_t2, by decide +kernel⟩
theorem mf_67 : sm_M 67 := ⟨tw_t603, by decide +kernel, ⟨by decide +kernel, by decide +kernel⟩, by decide +kernel, tw_t1, by decide +kernel⟩
theorem mf_68 : sm_M 68 := ⟨tw_t611, by decide +kernel, ⟨by decide +kernel, by decide +kernel⟩, by decide +kernel, tw_t1, by decide +kernel⟩
theorem mf_69 : sm_M 69 := ⟨tw_t615, by decide +kernel, ⟨by decide +kernel, by decide +kernel⟩, by decide +kernel, tw_t1, by decide +kernel⟩
theorem mf_70 : sm_M 70 := ⟨tw_t619, by decide +kernel, ⟨by decide +kernel, by decide +kernel⟩, by decide +kernel, tw_t7, by decide +kernel⟩
theorem mf_71 : sm_M 71 := ⟨tw_t623, by decide +kernel, ⟨by decide +kernel, by decide +kernel⟩, by decide +kernel, tw_t7, by decide +kernel⟩
theorem mf_72 : sm_M 72 := ⟨tw_t627, by decide +kernel, ⟨by decide +kernel, by decide +kernel⟩, by decide +kernel, tw_t1, by decide +kernel⟩
theorem mf_73 : sm_M 73 := ⟨tw_t631, by decide +kernel, ⟨by decide +kernel, by decide +kernel⟩, by decide +kernel, tw_t8, by decide +kernel⟩
theorem mf_74 : sm_M 74 := ⟨tw_t635, by decide +kernel, ⟨by decide +kernel, by decide +kernel⟩, by decide +kernel, tw_t8, by decide +kernel⟩
theorem mf_75 : sm_M 75 := ⟨tw_t641, by decide +kernel, ⟨by decide +kernel, by decide +kernel⟩, by decide +kernel, tw_t8, by decide +kernel⟩
theorem mf_76 : sm_M 76 := ⟨tw_t646, by decide +kernel, ⟨by decide +kernel, by decide +kernel⟩, by decide +kernel, tw_t8, by decide +kernel⟩
theorem mf_77 : sm_M 77 := ⟨tw_t659, by decide +kernel, ⟨by decide +kernel, by decide +kernel⟩, by decide +kernel, tw_t7, by decide +kernel⟩
theorem mf_78 : sm_M 78 := ⟨tw_t663, by decide +kernel, ⟨by decide +kernel, by decide +kernel⟩, by decide +kernel, tw_t8, by decide +kernel⟩
theorem mf_79 : sm_M 79 := ⟨tw_t668, by decide +kernel, ⟨by decide +kernel, by decide +kernel⟩, by decide +kernel, tw_t8, by decide +kernel⟩
theorem mf_80 : sm_M 80 := ⟨tw_t671, by decide +kernel, ⟨by decide +kernel, by decide +kernel⟩, by decide +kernel, tw_t8, by decide +kernel⟩
theorem mf_81 : sm_M 81 := ⟨tw_t675, by decide +kernel, ⟨by decide +kernel, by decide +kernel⟩, by decide +kernel, tw_t2, by decide +kernel⟩
theorem mf_82 : sm_M 82 := ⟨tw_t682, by decide +kernel, ⟨by decide +kernel, by decide +kernel⟩, by decide +kernel, tw_t8, by decide +kernel⟩
theorem mf_83 : sm_M 83 := ⟨tw_t686, by decide +kernel, ⟨by decide +kernel, by decide +kernel⟩, by decide +kernel, tw_t1, by decide +kernel⟩
theorem mf_84 : sm_M 84 := ⟨tw_t690, by decide +kernel, ⟨by decide +kernel, by decide +kernel⟩, by decide +kernel, tw_t8, by decide +kernel⟩
theorem mf_85 : sm_M 85 := ⟨tw_t694, by decide +kernel, ⟨by decide +kernel, by decide +kernel⟩, by decide +kernel, tw_t1, by decide +kernel⟩
theorem mf_86 : sm_M 86 := ⟨tw_t698, by decide +kernel, ⟨by decide +kernel, by decide +kernel⟩, by decide +kernel, tw_t8, by decide +kernel⟩
theorem mf_87 : sm_M 87 := ⟨tw_t702, by decide +kernel, ⟨by decide +kernel, by decide +kernel⟩, by decide +kernel, tw_t1, by decide +kernel⟩
theorem mf_88 : sm_M 88 := ⟨tw_t706, by decide +kernel, ⟨by decide +kernel, by decide +kernel⟩, by decide +kernel, tw_t8, by decide +kernel⟩
theorem mf_89 : sm_M 89 := ⟨tw_t710, by decide +kernel, ⟨by decide +kernel, by decide +kernel⟩, by decide +kernel, tw_t8, by decide +kernel⟩
theorem mf_90 : sm_M 90 := ⟨tw_t714, by decide +kernel, ⟨by decide +kernel, by decide +kernel⟩, by decide +kernel, tw_t8, by decide +kernel⟩
theorem mf_91 : sm_M 91 := ⟨tw_t718, by decide +kernel, ⟨by decide +kernel, by decide +kernel⟩, by decide +kernel, tw_t7, by decide +kernel⟩
theorem mf_92 : sm_M 92 := ⟨tw_t721, by decide +kernel, ⟨by decide +kernel, by decide +kernel⟩, by decide +kernel, tw_t0, by decide +kernel⟩
theorem mf_93 : sm_M 93 := ⟨tw_t726, by decide +kernel, ⟨by decide +kernel, by decide +kernel⟩, by decide +kernel, tw_t10, by decide +kernel⟩
theorem mf_94 : sm_M 94 := ⟨tw_t808, by decide +kernel, ⟨by decide +kernel, by decide +kernel⟩, by decide +kernel, tw_t10, by decide +kernel⟩
theorem mf_95 : sm_M 95 := ⟨tw_t812, by decide +kernel, ⟨by decide +kernel, by decide +kernel⟩, by decide +kernel, tw_t10, by decide +kernel⟩
theorem mf_96 : sm_M 96 := ⟨tw_t816, by decide +kernel, ⟨by decide +kernel, by decide +kernel⟩, by decide +kernel, tw_t10, by decide +kernel⟩
theorem mf_97 : sm_M 97 := ⟨tw_t820, by decide +kernel, ⟨by decide +kernel, by decide +kernel⟩, by decide +kernel, tw_t10, by decide +kernel⟩
theorem mf_98 : sm_M 98 := ⟨tw_t824, by decide +kernel, ⟨by decide +kernel, by decide +kernel⟩, by decide +kernel, tw_t10, by decide +kernel⟩
theorem mf_99 : sm_M 99 := ⟨tw_t828, by decide +kernel, ⟨by decide +kernel, by decide +kernel⟩, by decide +kernel, tw_t10, by decide +kernel⟩
theorem mf_100 : sm_M 100 := ⟨tw_t832, by decide +kernel, ⟨by decide +kernel, by decide +kernel⟩, by decide +kernel, tw_t10, by decide +kernel⟩
theorem mf_101 : sm_M 101 := ⟨tw_t836, by decide +kernel, ⟨by decide +kernel, by decide +kernel⟩, by decide +kernel, tw_t10, by decide +kernel⟩
theorem mf_102 : sm_M 102 := ⟨tw_t840, by decide +kernel, ⟨by decide +kernel, by decide +kernel⟩, by decide +kernel, tw_t10, by decide +kernel⟩
theorem mf_103 : sm_M 103 := ⟨tw_t844, by decide +kernel, ⟨by decide +kernel, by decide +kernel⟩, by decide +kernel, tw_t10, by decide +kernel⟩
theorem mf_104 : sm_M 104 := ⟨tw_t848, by decide +kernel, ⟨by decide +kernel, by decide +kernel⟩, by decide +kernel, tw_t10, by decide +kernel⟩
theorem mf_105 : sm_M 105 := ⟨tw_t853, by decide +kernel, ⟨by decide +kernel, by decide +kernel⟩, by decide +kernel, tw_t10, by decide +kernel⟩
theorem mf_106 : sm_M 106 := ⟨tw_t858, by decide +kernel, ⟨by decide +kernel, by decide +kernel⟩, by decide +kernel, tw_t10, by decide +kernel⟩
theorem mf_107 : sm_M 107 := ⟨tw_t863, by decide +kernel, ⟨by decide +kernel, by decide +kernel⟩, by decide +kernel, tw_t10, by decide +kernel⟩
theorem mf_108 : sm_M 108 := ⟨tw_t867, by decide +kernel, ⟨by decide +kernel, by decide +kernel⟩, by decide +kernel, tw_t10, by decide +kernel⟩
theorem mf_109 : sm_M 109 := ⟨tw_t871, by decide +kernel, ⟨by decide +kernel, by decide +kernel⟩, by decide +kernel, tw_t10, by decide +kernel⟩
theorem mf_110 : sm_M 110 := ⟨tw_t875, by decide +kernel, ⟨by decide +kernel, by decide +kernel⟩, by decide +kernel, tw_t10, by decide +kernel⟩
theorem mf_111 : sm_M 111 := ⟨tw_t879, by decide +kernel, ⟨by decide +kernel, by decide +kernel⟩, by decide +kernel, tw_t10, by decide +kernel⟩
theorem mf_112 : sm_M 112 := ⟨tw_t883, by decide +kernel, ⟨by decide +kernel, by decide +kernel⟩, by decide +kernel, tw_t10, by decide +kernel⟩
theorem mf_113 : sm_M 113 := ⟨tw_t887, by decide +kernel, ⟨by decide +kernel, by decide +kernel⟩, by decide +kernel, tw_t10, by decide +kernel⟩
theorem mf_114 : sm_M 114 := ⟨tw_t893, by decide +kernel, ⟨by decide +kernel, by decide +kernel⟩, by decide +kernel, tw_t10, by decide +kernel⟩
theorem mf_115 : sm_M 115 := ⟨tw_t906, by decide +kernel, ⟨by decide +kernel, by decide +kernel⟩, by decide +kernel, tw_t10, by decide +kernel⟩
theorem mf_116 : sm_M 116 := ⟨tw_t913, by decide +kernel, ⟨by decide +kernel, by decide +kernel⟩, by decide +kernel, tw_t10, by decide +kernel⟩
theorem mf_117 : sm_M 117 := ⟨tw_t921, by decide +kernel, ⟨by decide +kernel, by decide +kernel⟩, by decide +kernel, tw_t10, by decide +kernel⟩
theorem mf_118 : sm_M 118 := ⟨tw_t927, by decide +kernel, ⟨by decide +kernel, by decide +kernel⟩, by decide +kernel, tw_t10, by decide +kernel⟩
theorem mf_119 : sm_M 119 := ⟨tw_t934, by decide +kernel, ⟨by decide +kernel, by decide +kernel⟩, by decide +kernel, tw_t10, by decide +kernel⟩
theorem mf_120 : sm_M 120 := ⟨tw_t940, by decide +kernel, ⟨by decide +kernel, by decide +kernel⟩, by decide +kernel, tw_t10, by decide +kernel⟩
theorem mf_121 : sm_M 121 := ⟨tw_t945, by decide +kernel, ⟨by decide +kernel, by decide +kernel⟩, by decide +kernel, tw_t10, by decide +kernel⟩
theorem mf_122 : sm_M 122 := ⟨tw_t950, by decide +kernel, ⟨by decide +kernel, by decide +kernel⟩, by decide +kernel, tw_t10, by decide +kernel⟩
theorem mf_123 : sm_M 123 := ⟨tw_t954, by decide +kernel, ⟨by decide +kernel, by decide +kernel⟩, by decide +kernel, tw_t10, by decide +kernel⟩
theorem mf_124 : sm_M 124 := ⟨tw_t964, by decide +kernel, ⟨by decide +kernel, by decide +kernel⟩, by decide +kernel, tw_t10, by decide +kernel⟩
theorem mf_125 : sm_M 125 := ⟨tw_t973, by decide +kernel, ⟨by decide +kernel, by decide +kernel⟩, by decide +kernel, tw_t10, by decide +kernel⟩
theorem mf_126 : sm_M 126 := ⟨tw_t979, by decide +kernel, ⟨by decide +kernel, by decide +kernel⟩, by decide +kernel, tw_t10, by decide +kernel⟩
theorem mf_127 : sm_M 127 := ⟨tw_t983, by decide +kernel, ⟨by decide +kernel, by decide +kernel⟩, by decide +kernel, tw_t10, by decide +kernel⟩
theorem mf_128 : sm_M 128 := ⟨tw_t987, by decide +kernel, ⟨by decide +kernel, by decide +kernel⟩, by decide +kernel, tw_t10, by decide +kernel⟩
theorem mf_129 : sm_M 129 := ⟨tw_t991, by decide +kernel, ⟨by decide +kernel, by decide +kernel⟩, by decide +kernel, tw_t10, by decide +kernel⟩
theorem mf_130 : sm_M 130 := ⟨tw_t995, by decide +kernel, ⟨by decide +kernel, by decide +kernel⟩, by decide +kernel, tw_t10, by decide +kernel⟩
theorem mf_131 : sm_M 131 := ⟨tw_t1003, by decide +kernel, ⟨by decide +kernel, by decide +kernel⟩, by decide +kernel, tw_t10, by decide +kernel⟩
theorem mf_132 : sm_M 132 := ⟨tw_t1010, by decide +kernel, ⟨by decide +kernel, by decide +kernel⟩, by decide +kernel, tw_t10, by decide +kernel⟩
theorem mf_133 : sm_M 133 := ⟨tw_t1014, by decide +kernel, ⟨by decide +kernel, by decide +kernel⟩, by decide +kernel, tw_t10, by decide +kernel⟩
theorem mf_134 : sm_M 134 := ⟨tw_t1018, by decide +kernel, ⟨by decide +kernel, by decide +kernel⟩, by decide +kernel, tw_t10, by decide +kernel⟩
theorem mf_135 : sm_M 135 := ⟨tw_t1023, by decide +kernel, ⟨by decide +kernel, by decide +kernel⟩, by decide +kernel, tw_t10, by decide +kernel⟩
theorem mf_136 : sm_M 136 := ⟨tw_t1027, by decide +kernel, ⟨by decide +kernel, by decide +kernel⟩, by decide +kernel, tw_t10, by decide +kernel⟩
theorem mf_137 : sm_M 137 := ⟨tw_t1031, by decide +kernel, ⟨by decide +kernel, by decide +kernel⟩, by decide +kernel, tw_t10, by decide +kernel⟩
theorem mf_138 : sm_M 138 := ⟨tw_t1038, by decide +kernel, ⟨by decide +kernel, by decide +kernel⟩, by decide +kernel, tw_t10, by decide +kernel⟩
theorem mf_139 : sm_M 139 := ⟨tw_t1042, by decide +kernel, ⟨by decide +kernel, by decide +kernel⟩, by decide +kernel, tw_t10, by decide +kernel⟩
theorem mf_140 : sm_M 140 := ⟨tw_t1049, by decide +kernel, ⟨by decide +kernel, by decide +kernel⟩, by decide +kernel, tw_t10, by decide +kernel⟩
theorem mf_141 : sm_M 141 := ⟨tw_t1054, by decide +kernel, ⟨by decide +kernel, by decide +kernel⟩, by decide +kernel, tw_t10, by decide +kernel⟩
theorem mf_142 : sm_M 142 := ⟨tw_t1058, by decide +kernel, ⟨by decide +kernel, by decide +kernel⟩, by decide +kernel, tw_t10, by decide +kernel⟩
theorem mf_143 : sm_M 143 := ⟨tw_t1062, by decide +kernel, ⟨by decide +kernel, by decide +kernel⟩, by decide +kernel, tw_t10, by decide +kernel⟩
theorem mf_144 : sm_M 144 := ⟨tw_t1066, by decide +kernel, ⟨by decide +kernel, by decide +kernel⟩, by decide +kernel, tw_t10, by decide +kernel⟩
theorem mf_145 : sm_M 145 := ⟨tw_t1070, by decide +kernel, ⟨by decide +kernel, by decide +kernel⟩, by decide +kernel, tw_t10, by decide +kernel⟩
theorem mf_146 : sm_M 146 := ⟨tw_t1074, by decide +kernel, ⟨by decide +kernel, by decide +kernel⟩, by decide +kernel, tw_t10, by decide +kernel⟩
theorem mf_147 : sm_M 147 := ⟨tw_t1078, by decide +kernel, ⟨by decide +kernel, by decide +kernel⟩, by decide +kernel, tw_t10, by decide +kernel⟩
theorem mf_148 : sm_M 148 := ⟨tw_t245, by decide +kernel, ⟨by decide +kernel, by decide +kernel⟩, by decide +kernel, tw_t12, by decide +kernel⟩
theorem mf_149 : sm_M 149 := ⟨tw_t249, by decide +kernel, ⟨by decide +kernel, by decide +kernel⟩, by decide +kernel, tw_t12, by decide +kernel⟩
theorem mf_150 : sm_M 150 := ⟨tw_t347, by decide +kernel, ⟨by decide +kernel, by decide +kernel⟩, by decide +kernel, tw_t12, by decide +kernel⟩
theorem mf_151 : sm_M 151 := ⟨tw_t239, by decide +kernel, ⟨by decide +kernel, by decide +kernel⟩, by decide +kernel, tw_t12, by decide +kernel⟩
theorem mf_152 : sm_M 152 := ⟨tw_t231, by decide +kernel, ⟨by decide +kernel, by decide +kernel⟩, by decide +kernel, tw_t12, by decide +kernel⟩
theorem mf_153 : sm_M 153 := ⟨tw_t235, by decide +kernel, ⟨by decide +kernel, by decide +kernel⟩, by decide +kernel, tw_t12, by decide +kernel⟩
theorem mf_154 : sm_M 154 := ⟨tw_t353, by decide +kernel, ⟨by decide +kernel, by decide +kernel⟩, by decide +kernel, tw_t12, by decide +kernel⟩
theorem mf_155 : sm_M 155 := ⟨tw_t350, by decide +kernel, ⟨by decide +kernel, by decide +kernel⟩, by decide +kernel, tw_t13, by decide +kernel⟩
theorem mf_156 : sm_M 156 := ⟨tw_t252, by decide +kernel, ⟨by decide +kernel, by decide +kernel⟩, by decide +kernel, tw_t13, by decide +kernel⟩
theorem mf_157 : sm_M 157 := ⟨tw_t255, by decide +kernel, ⟨by decide +kernel, by decide +kernel⟩, by decide +kernel, tw_t13, by decide +kernel⟩
theorem mf_158 : sm_M 158 := ⟨tw_t260, by decide +kernel, ⟨by decide +kernel, by decide +kernel⟩, by decide +kernel, tw_t13, by decide +kernel⟩
theorem mf_159 : sm_M 159 := ⟨tw_t356, by decide +kernel, ⟨by decide +kernel, by decide +kernel⟩, by decide +kernel, tw_t15, by decide +kernel⟩
theorem nl_0 : ∀ w ∈ u_ws (cN 0) (cT 0) (cS 0), tw w := by
  show ∀ w ∈ (List.range 10).map (u_lay (cN 0) (cT 0)), tw w
  rw [show (List.range 10).map (u_lay (cN 0) (cT 0)) = [(Jvm.Cond.laysFinal "TestEmitter" "TestEmitter" "typed" "LTestEmitter$Chars;"), (Jvm.Cond.lays "TestEmitter" "TestEmitter" "arguments" "LTestEmitter$TypeRow;"), (Jvm.Cond.lays "TestEmitter" "TestEmitter" "outcome" "LTestEmitter$Type;"), (Jvm.Cond.laysFinal "TestEmitter" "TestEmitter" "builder" "LTestEmitter$Builder;"), (Jvm.Cond.laysFinal "TestEmitter" "TestEmitter" "call" "LTestEmitter$Chars;"), (Jvm.Cond.laysFinal "TestEmitter" "TestEmitter" "literal" "LTestEmitter$Chars;"), (Jvm.Cond.laysFinal "TestEmitter" "TestEmitter" "body" "LTestEmitter$Chars;"), (Jvm.Cond.laysFinal "TestEmitter" "TestEmitter" "suite" "LTestEmitter$Suite;"), (Jvm.Cond.laysFinal "TestEmitter" "TestEmitter" "text" "LTestEmitter$Text;"), (Jvm.Cond.lays "TestEmitter" "TestEmitter" "lastTaken" "I")] from by decide +kernel]
  exact List.forall_mem_cons.mpr ⟨tw_t167, List.forall_mem_cons.mpr ⟨tw_t169, List.forall_mem_cons.mpr ⟨tw_t171, List.forall_mem_cons.mpr ⟨tw_t173, List.forall_mem_cons.mpr ⟨tw_t175, List.forall_mem_cons.mpr ⟨tw_t177, List.forall_mem_cons.mpr ⟨tw_t179, List.forall_mem_cons.mpr ⟨tw_t181, List.forall_mem_cons.mpr ⟨tw_t183, List.forall_mem_cons.mpr ⟨tw_t185, fun _ h => absurd h List.not_mem_nil⟩⟩⟩⟩⟩⟩⟩⟩⟩⟩
theorem nl_1 : ∀ w ∈ u_ws (cN 1) (cT 1) (cS 1), tw w := by
  show ∀ w ∈ (List.range 2).map (u_lay (cN 1) (cT 1)), tw w
  rw [show (List.range 2).map (u_lay (cN 1) (cT 1)) = [(Jvm.Cond.lays "TestEmitter$Chars" "TestEmitter$Chars" "chars" "[C"), (Jvm.Cond.lays "TestEmitter$Chars" "TestEmitter$Chars" "length" "I")] from by decide +kernel]
  exact List.forall_mem_cons.mpr ⟨tw_t33, List.forall_mem_cons.mpr ⟨tw_t35, fun _ h => absurd h List.not_mem_nil⟩⟩
theorem nl_2 : ∀ w ∈ u_ws (cN 2) (cT 2) (cS 2), tw w := by
  show ∀ w ∈ (List.range 2).map (u_lay (cN 2) (cT 2)), tw w
  rw [show (List.range 2).map (u_lay (cN 2) (cT 2)) = [(Jvm.Cond.laysFinal "TestEmitter$TypeRow" "TestEmitter$TypeRow" "types" "[LTestEmitter$Type;"), (Jvm.Cond.lays "TestEmitter$TypeRow" "TestEmitter$TypeRow" "size" "I")] from by decide +kernel]
  exact List.forall_mem_cons.mpr ⟨tw_t49, List.forall_mem_cons.mpr ⟨tw_t51, fun _ h => absurd h List.not_mem_nil⟩⟩
theorem nl_3 : ∀ w ∈ u_ws (cN 3) (cT 3) (cS 3), tw w := by
  show ∀ w ∈ (List.range 3).map (u_lay (cN 3) (cT 3)), tw w
  rw [show (List.range 3).map (u_lay (cN 3) (cT 3)) = [(Jvm.Cond.laysFinal "TestEmitter$Type" "TestEmitter$Type" "brackets" "I"), (Jvm.Cond.laysFinal "TestEmitter$Type" "TestEmitter$Type" "letter" "I"), (Jvm.Cond.laysFinal "TestEmitter$Type" "TestEmitter$Type" "classNumber" "I")] from by decide +kernel]
  exact List.forall_mem_cons.mpr ⟨tw_t63, List.forall_mem_cons.mpr ⟨tw_t65, List.forall_mem_cons.mpr ⟨tw_t67, fun _ h => absurd h List.not_mem_nil⟩⟩⟩
theorem nl_4 : ∀ w ∈ u_ws (cN 4) (cT 4) (cS 4), tw w := by
  show ∀ w ∈ (List.range 2).map (u_lay (cN 4) (cT 4)), tw w
  rw [show (List.range 2).map (u_lay (cN 4) (cT 4)) = [(Jvm.Cond.laysFinal "TestEmitter$Builder" "TestEmitter$Builder" "numbers" "LTestEmitter$Data;"), (Jvm.Cond.laysFinal "TestEmitter$Builder" "TestEmitter$Builder" "classes" "[LTestEmitter$TypeRow;")] from by decide +kernel]
  exact List.forall_mem_cons.mpr ⟨tw_t98, List.forall_mem_cons.mpr ⟨tw_t100, fun _ h => absurd h List.not_mem_nil⟩⟩
theorem nl_5 : ∀ w ∈ u_ws (cN 5) (cT 5) (cS 5), tw w := by
  show ∀ w ∈ (List.range 3).map (u_lay (cN 5) (cT 5)), tw w
  rw [show (List.range 3).map (u_lay (cN 5) (cT 5)) = [(Jvm.Cond.laysFinal "TestEmitter$Data" "TestEmitter$Data" "ints" "[I"), (Jvm.Cond.lays "TestEmitter$Data" "TestEmitter$Data" "size" "I"), (Jvm.Cond.lays "TestEmitter$Data" "TestEmitter$Data" "used" "I")] from by decide +kernel]
  exact List.forall_mem_cons.mpr ⟨tw_t85, List.forall_mem_cons.mpr ⟨tw_t87, List.forall_mem_cons.mpr ⟨tw_t89, fun _ h => absurd h List.not_mem_nil⟩⟩⟩
theorem nl_6 : ∀ w ∈ u_ws (cN 6) (cT 6) (cS 6), tw w := by
  show ∀ w ∈ (List.range 3).map (u_lay (cN 6) (cT 6)), tw w
  rw [show (List.range 3).map (u_lay (cN 6) (cT 6)) = [(Jvm.Cond.laysFinal "TestEmitter$Suite" "TestEmitter$Suite" "bodies" "[LTestEmitter$Chars;"), (Jvm.Cond.lays "TestEmitter$Suite" "TestEmitter$Suite" "size" "I"), (Jvm.Cond.lays "TestEmitter$Suite" "TestEmitter$Suite" "thrown" "I")] from by decide +kernel]
  exact List.forall_mem_cons.mpr ⟨tw_t114, List.forall_mem_cons.mpr ⟨tw_t116, List.forall_mem_cons.mpr ⟨tw_t118, fun _ h => absurd h List.not_mem_nil⟩⟩⟩
theorem nl_7 : ∀ w ∈ u_ws (cN 7) (cT 7) (cS 7), tw w := by
  show ∀ w ∈ (List.range 7).map (u_lay (cN 7) (cT 7)), tw w
  rw [show (List.range 7).map (u_lay (cN 7) (cT 7)) = [(Jvm.Cond.laysFinal "TestEmitter$Text" "TestEmitter$Text" "width" "I"), (Jvm.Cond.laysFinal "TestEmitter$Text" "TestEmitter$Text" "chars" "LTestEmitter$Chars;"), (Jvm.Cond.lays "TestEmitter$Text" "TestEmitter$Text" "starts" "[I"), (Jvm.Cond.lays "TestEmitter$Text" "TestEmitter$Text" "lines" "I"), (Jvm.Cond.lays "TestEmitter$Text" "TestEmitter$Text" "nextStart" "I"), (Jvm.Cond.lays "TestEmitter$Text" "TestEmitter$Text" "longest" "I"), (Jvm.Cond.lays "TestEmitter$Text" "TestEmitter$Text" "broken" "I")] from by decide +kernel]
  exact List.forall_mem_cons.mpr ⟨tw_t142, List.forall_mem_cons.mpr ⟨tw_t144, List.forall_mem_cons.mpr ⟨tw_t146, List.forall_mem_cons.mpr ⟨tw_t148, List.forall_mem_cons.mpr ⟨tw_t150, List.forall_mem_cons.mpr ⟨tw_t152, List.forall_mem_cons.mpr ⟨tw_t154, fun _ h => absurd h List.not_mem_nil⟩⟩⟩⟩⟩⟩⟩
theorem nl_8 : ∀ w ∈ u_ws (cN 8) (cT 8) (cS 8), tw w := by
  show ∀ w ∈ (List.range 25).map (u_lay (cN 8) (cT 8)), tw w
  rw [show (List.range 25).map (u_lay (cN 8) (cT 8)) = [(Jvm.Cond.laysFinal "TestEmitterModel" "TestEmitterModel" "width" "I"), (Jvm.Cond.lays "TestEmitterModel" "TestEmitterModel" "typed" "I"), (Jvm.Cond.lays "TestEmitterModel" "TestEmitterModel" "many" "I"), (Jvm.Cond.lays "TestEmitterModel" "TestEmitterModel" "tests" "I"), (Jvm.Cond.lays "TestEmitterModel" "TestEmitterModel" "used" "I"), (Jvm.Cond.lays "TestEmitterModel" "TestEmitterModel" "took" "I"), (Jvm.Cond.lays "TestEmitterModel" "TestEmitterModel" "size" "I"), (Jvm.Cond.lays "TestEmitterModel" "TestEmitterModel" "lines" "I"), (Jvm.Cond.lays "TestEmitterModel" "TestEmitterModel" "longest" "I"), (Jvm.Cond.lays "TestEmitterModel" "TestEmitterModel" "added" "I"), (Jvm.Cond.laysFinal "TestEmitterModel" "TestEmitterModel" "line" "[C"), (Jvm.Cond.laysFinal "TestEmitterModel" "TestEmitterModel" "types" "[C"), (Jvm.Cond.laysFinal "TestEmitterModel" "TestEmitterModel" "typeSize" "[I"), (Jvm.Cond.laysFinal "TestEmitterModel" "TestEmitterModel" "data" "[I"), (Jvm.Cond.laysFinal "TestEmitterModel" "TestEmitterModel" "bodies" "[I"), (Jvm.Cond.laysFinal "TestEmitterModel" "TestEmitterModel" "text" "[I"), (Jvm.Cond.laysFinal "TestEmitterModel" "TestEmitterModel" "bodySize" "[I"), (Jvm.Cond.laysFinal "TestEmitterModel" "TestEmitterModel" "thrown" "[Z"), (Jvm.Cond.laysFinal "TestEmitterModel" "TestEmitterModel" "part" "[C"), (Jvm.Cond.laysFinal "TestEmitterModel" "TestEmitterModel" "partSize" "[I"), (Jvm.Cond.lays "TestEmitterModel" "TestEmitterModel" "into" "I"), (Jvm.Cond.lays "TestEmitterModel" "TestEmitterModel" "around" "I"), (Jvm.Cond.laysFinal "TestEmitterModel" "TestEmitterModel" "todo" "[I"), (Jvm.Cond.lays "TestEmitterModel" "TestEmitterModel" "left" "I"), (Jvm.Cond.lays "TestEmitterModel" "TestEmitterModel" "isNull" "Z")] from by decide +kernel]
  exact List.forall_mem_cons.mpr ⟨tw_t753, List.forall_mem_cons.mpr ⟨tw_t755, List.forall_mem_cons.mpr ⟨tw_t757, List.forall_mem_cons.mpr ⟨tw_t759, List.forall_mem_cons.mpr ⟨tw_t761, List.forall_mem_cons.mpr ⟨tw_t763, List.forall_mem_cons.mpr ⟨tw_t765, List.forall_mem_cons.mpr ⟨tw_t767, List.forall_mem_cons.mpr ⟨tw_t769, List.forall_mem_cons.mpr ⟨tw_t771, List.forall_mem_cons.mpr ⟨tw_t773, List.forall_mem_cons.mpr ⟨tw_t775, List.forall_mem_cons.mpr ⟨tw_t777, List.forall_mem_cons.mpr ⟨tw_t779, List.forall_mem_cons.mpr ⟨tw_t781, List.forall_mem_cons.mpr ⟨tw_t783, List.forall_mem_cons.mpr ⟨tw_t785, List.forall_mem_cons.mpr ⟨tw_t787, List.forall_mem_cons.mpr ⟨tw_t789, List.forall_mem_cons.mpr ⟨tw_t791, List.forall_mem_cons.mpr ⟨tw_t793, List.forall_mem_cons.mpr ⟨tw_t795, List.forall_mem_cons.mpr ⟨tw_t797, List.forall_mem_cons.mpr ⟨tw_t799, List.forall_mem_cons.mpr ⟨tw_t801, fun _ h => absurd h List.not_mem_nil⟩⟩⟩⟩⟩⟩⟩⟩⟩⟩⟩⟩⟩⟩⟩⟩⟩⟩⟩⟩⟩⟩⟩⟩⟩
theorem nm_lay : ∀ ci, ci < cO → ∀ w ∈ u_ws (cN ci) (cT ci) (cS ci), tw w := by
  intro ci h
  have h : ci < 9 := h
  match ci, h with
  | 0, _ => exact nl_0
  | 1, _ => exact nl_1
  | 2, _ => exact nl_2
  | 3, _ => exact nl_3
  | 4, _ => exact nl_4
  | 5, _ => exact nl_5
  | 6, _ => exact nl_6
  | 7, _ => exact nl_7
  | 8, _ => exact nl_8
  | n + 9, h => exact absurd h (by omega)
theorem nm_ty : ∀ ci, ci < cO → ∀ k, k < cS ci → parseFieldDescriptor (cT ci k).2.2.1 = some (cF ci k) := by decide +kernel
theorem nm_ne : ∀ ci, ci < cO → ∀ a, a < cS ci → ∀ b, b < cS ci → a ≠ b → (cT ci a).2.1 ≠ (cT ci b).2.1 := by decide +kernel
theorem nm_cO : cO ≤ cAll := by decide
theorem kL_ok : 20 ≤ kL ∧ nativeFrameWords "java/lang/System" "arraycopy" 5 + 19 ≤ kL := by decide +kernel
end
section

/-! ROWS OF THE STEPS -/
def sm_F (mid pc : Nat) (i : Instr) (len : Nat) : Prop := match i with
  | .iconst n => (decode (mB mid) pc = .ok (.iconst n, 1) ∧ len = 1) ∨ (decode (mB mid) pc = .ok (.bipush n, 2) ∧ len = 2 ∧ (Int8.ofInt n).toInt32 = Int32.ofInt n) ∨ (decode (mB mid) pc = .ok (.sipush n, 3) ∧ len = 3 ∧ (Int16.ofInt n).toInt32 = Int32.ofInt n) ∨ ∃ x : Nat, decode (mB mid) pc = .ok (.ldc x, 2) ∧ len = 2 ∧ tw (.constant (mN mid).cls x (Int32.ofInt n))
  | .ldc2_w n => (∃ k : Fin 2, decode (mB mid) pc = .ok (.lconst k, 1) ∧ len = 1 ∧ Int64.ofNat (k : Nat) = Int64.ofNat n) ∨ ∃ x : Nat, decode (mB mid) pc = .ok (.ldc2_w x, 3) ∧ len = 3 ∧ tw (.constantLong (mN mid).cls x (Int64.ofNat n))
  | .ldc r => ∃ x : Nat, decode (mB mid) pc = .ok (.ldc x, 2) ∧ len = 2 ∧ (((mN mid).cls, x), r) ∈ sKl
  | .getstatic k => ∃ x : Nat, decode (mB mid) pc = .ok (.getstatic x, 3) ∧ len = 3 ∧ k < zNn ∧ tw (.fieldLink (mN mid).cls x (zC k) (zN k) (zD k))
  | .nop => len = 3 ∧ ∃ x : Nat, decode (mB mid) pc = .ok (.getstatic x, 3) ∧ tw (.fieldLink (mN mid).cls x oC oN oD)
  | .iload j => (decode (mB mid) pc = .ok (.iload j, 2) ∧ len = 2) ∨ ∃ k : Fin 4, decode (mB mid) pc = .ok (.iload_n k, 1) ∧ (k : Nat) = j ∧ len = 1
  | .lload j => (decode (mB mid) pc = .ok (.lload j, 2) ∧ len = 2) ∨ ∃ k : Fin 4, decode (mB mid) pc = .ok (.lload_n k, 1) ∧ (k : Nat) = j ∧ len = 1
  | .aload j => (decode (mB mid) pc = .ok (.aload j, 2) ∧ len = 2) ∨ ∃ k : Fin 4, decode (mB mid) pc = .ok (.aload_n k, 1) ∧ (k : Nat) = j ∧ len = 1
  | .istore j => (decode (mB mid) pc = .ok (.istore j, 2) ∧ len = 2) ∨ ∃ k : Fin 4, decode (mB mid) pc = .ok (.istore_n k, 1) ∧ (k : Nat) = j ∧ len = 1
  | .lstore j => (decode (mB mid) pc = .ok (.lstore j, 2) ∧ len = 2) ∨ ∃ k : Fin 4, decode (mB mid) pc = .ok (.lstore_n k, 1) ∧ (k : Nat) = j ∧ len = 1
  | .astore j => (decode (mB mid) pc = .ok (.astore j, 2) ∧ len = 2) ∨ ∃ k : Fin 4, decode (mB mid) pc = .ok (.astore_n k, 1) ∧ (k : Nat) = j ∧ len = 1
  | .iinc j n => decode (mB mid) pc = .ok (.iinc j n, 3) ∧ len = 3
  | .goto t => ∃ off : Int, decode (mB mid) pc = .ok (.goto off, 3) ∧ len = 3 ∧ (pc : Int) + off = (t.toNat : Int)
  | .ifCond k t => ∃ off : Int, decode (mB mid) pc = .ok (.ifCond k off, 3) ∧ len = 3 ∧ (pc : Int) + off = (t.toNat : Int)
  | .if_icmp k t => ∃ off : Int, decode (mB mid) pc = .ok (.if_icmp k off, 3) ∧ len = 3 ∧ (pc : Int) + off = (t.toNat : Int)
  | .ifnull t => ∃ off : Int, decode (mB mid) pc = .ok (.ifnull off, 3) ∧ len = 3 ∧ (pc : Int) + off = (t.toNat : Int)
  | .ifnonnull t => ∃ off : Int, decode (mB mid) pc = .ok (.ifnonnull off, 3) ∧ len = 3 ∧ (pc : Int) + off = (t.toNat : Int)
  | .lookupswitch d ps => (∃ (d0 : Int) (p0 : Array (Int × Int)), decode (mB mid) pc = .ok (.lookupswitch d0 p0, len) ∧ (p0.toList.zip (p0.toList.drop 1)).all (fun (a, next) => a.1 < next.1) = true ∧ ps.toList = p0.toList.map (fun q => (q.1, (pc : Int) + q.2)) ∧ d = (pc : Int) + d0 ∧ 0 ≤ d ∧ ∀ q ∈ ps.toList, 0 ≤ q.2) ∨
      ∃ (d0 lo hi : Int) (offs : Array Int), decode (mB mid) pc = .ok (.tableswitch d0 lo hi offs, len) ∧ hi = lo + (offs.size : Int) - 1 ∧ ps.toList = sm_tab pc lo offs.toList ∧ d = (pc : Int) + d0 ∧ 0 ≤ d ∧ ∀ q ∈ ps.toList, 0 ≤ q.2
  | .getfield x => am_fk x < cS (am_fc x) ∧ am_fc x < cAll ∧ len = 3 ∧ ∃ y : Nat, decode (mB mid) pc = .ok (.getfield y, 3) ∧ (tw (.fieldLink (mN mid).cls y (cT (am_fc x) (am_fk x)).1 (cT (am_fc x) (am_fk x)).2.1 (cT (am_fc x) (am_fk x)).2.2.1) ∨ ∃ host : String, tw (.fieldLinkNest (mN mid).cls y (cT (am_fc x) (am_fk x)).1 (cT (am_fc x) (am_fk x)).2.1 (cT (am_fc x) (am_fk x)).2.2.1 host))
  | .putfield x => am_fk x < cS (am_fc x) ∧ am_fc x < cO ∧ len = 3 ∧ ∃ y : Nat, decode (mB mid) pc = .ok (.putfield y, 3) ∧ (((cT (am_fc x) (am_fk x)).2.2.2 = false ∧ (tw (.fieldLink (mN mid).cls y (cT (am_fc x) (am_fk x)).1 (cT (am_fc x) (am_fk x)).2.1 (cT (am_fc x) (am_fk x)).2.2.1) ∨ ∃ host : String, tw (.fieldLinkNest (mN mid).cls y (cT (am_fc x) (am_fk x)).1 (cT (am_fc x) (am_fk x)).2.1 (cT (am_fc x) (am_fk x)).2.2.1 host))) ∨
      ((cT (am_fc x) (am_fk x)).2.2.2 = true ∧ (cT (am_fc x) (am_fk x)).1 = (mN mid).cls ∧ (mN mid).name = "<init>" ∧ tw (.fieldLink (mN mid).cls y (cT (am_fc x) (am_fk x)).1 (cT (am_fc x) (am_fk x)).2.1 (cT (am_fc x) (am_fk x)).2.2.1)))
  | .new ci => ci < cO ∧ len = 3 ∧ ∃ x : Nat, decode (mB mid) pc = .ok (.new x, 3) ∧ tw (.classLink (mN mid).cls x (cN ci)) ∧ tw (.instantiable (cN ci) (cS ci)) ∧ tw (.initialized (cN ci))
  | .newarray t => decode (mB mid) pc = .ok (.newarray t, 2) ∧ len = 2 ∧ tw (.arrayClass (newarray.typeOf t))
  | .anewarray ci => len = 3 ∧ ∃ x : Nat, decode (mB mid) pc = .ok (.anewarray x, 3) ∧ tw (.classLink (mN mid).cls x (cN ci)) ∧ tw (.arrayOver (.object (cN ci)))
  | .monitorenter => len = 3 ∧ ∃ x : Nat, decode (mB mid) pc = .ok (.invokespecial x, 3) ∧ tw (.methodLink (mN mid).cls x Lib.objectInit) ∧ tw (.instanceMethod Lib.objectInit) ∧ tw (.code Lib.objectInit ⟨#[0xb1]⟩ 1 none)
  | .monitorexit => len = 3 ∧ ∃ x : Nat, decode (mB mid) pc = .ok (.invokestatic x, 3) ∧ tw (.methodLink (mN mid).cls x arraycopyName) ∧ tw (.native arraycopyName) ∧ tw (.static arraycopyName) ∧ tw (.initialized "java/lang/System")
  | .dadd => len = 3 ∧ ∃ x : Nat, decode (mB mid) pc = .ok (.invokestatic x, 3) ∧ tw (.methodLink (mN mid).cls x Lib.Math.max.name) ∧ tw (.static Lib.Math.max.name) ∧ tw (.initialized "java/lang/Math") ∧ tw (.code Lib.Math.max.name Lib.Math.max.code 2 (some .int))
  | .dsub => len = 3 ∧ ∃ x : Nat, decode (mB mid) pc = .ok (.invokestatic x, 3) ∧ tw (.methodLink (mN mid).cls x Lib.Math.min.name) ∧ tw (.static Lib.Math.min.name) ∧ tw (.initialized "java/lang/Math") ∧ tw (.code Lib.Math.min.name Lib.Math.min.code 2 (some .int))
  | .dneg => len = 3 ∧ ∃ x : Nat, decode (mB mid) pc = .ok (.invokestatic x, 3) ∧ tw (.methodLink (mN mid).cls x Lib.MathLoose.abs_long.x) ∧ tw (.static Lib.MathLoose.abs_long.x) ∧ tw (.initialized "java/lang/Math") ∧ tw (.code Lib.MathLoose.abs_long.x Lib.MathLoose.abs_long.code 2 (some .long))
  | .invokestatic cm => len = 3 ∧ sm_M cm ∧ tw (.static (mN cm)) ∧ ∃ x : Nat, decode (mB mid) pc = .ok (.invokestatic x, 3) ∧ (tw (.methodLink (mN mid).cls x (mN cm)) ∨ ∃ host : String, tw (.methodLinkNest (mN mid).cls x (mN cm) host))
  | .invokespecial cm => len = 3 ∧ sm_M cm ∧ tw (.instanceMethod (mN cm)) ∧ (mN cm).name = "<init>" ∧ mR cm = none ∧ ∃ x : Nat, decode (mB mid) pc = .ok (.invokespecial x, 3) ∧ (tw (.methodLink (mN mid).cls x (mN cm)) ∨ ∃ host : String, tw (.methodLinkNest (mN mid).cls x (mN cm) host))
  | .invokevirtual cm => len = 3 ∧ sm_M cm ∧ tw (.instanceMethod (mN cm)) ∧ tw (.selects (mN cm).cls (mN cm) (mN cm)) ∧ cN (mC cm) = (mN cm).cls ∧ mC cm < cAll ∧ ∃ x : Nat, decode (mB mid) pc = .ok (.invokevirtual x, 3) ∧ (tw (.methodLink (mN mid).cls x (mN cm)) ∨ ∃ host : String, tw (.methodLinkNest (mN mid).cls x (mN cm) host))
  | i => decode (mB mid) pc = .ok (i, 1) ∧ len = 1
section SG
variable {p : Program} {l : Launch} {e : Env} {R : Room} {s : State} {m : MethodId} {args : Array Value} {below : List Frame} {meth : Method} {c : Code} {Q : State → Prop}
variable {s0 : State} {φ : (Nat → Nat) × Option Nat} {dC : Nat → ClassId} {dI : Nat → Nat → Nat} {B nL cells slots mid pc d : Nat} {a0 : Array Value} {ls : AL} {st : List Value} {h : AH}
def sm_G (p : Program) (l : Launch) (e : Env) (R : Room) (s : State) (m : MethodId) (args : Array Value) (below : List Frame) (meth : Method) (c : Code) (Q : State → Prop) (s0 : State) (φ : (Nat → Nat) × Option Nat) (dC : Nat → ClassId) (dI : Nat → Nat → Nat) (B nL cells slots pc : Nat) (ls : AL) (st : List Value) (h : AH) : Prop :=
  ∀ (H : Heap) (locs : List Loc) (cls : Array Slot), sm_H s0 φ dC dI B H h → sm_L φ nL cls ls → (∀ q ∈ locs, B ≤ q.base) → W p l e R s m args below meth c H locs cells slots Q (F0 m pc cls (sm_s φ st))
def sm_X (p : Program) (R : Room) (s : State) (m : MethodId) (meth : Method) (c : Code) (s0 : State) (a0 : Array Value) (φ : (Nat → Nat) × Option Nat) (dC : Nat → ClassId) (dI : Nat → Nat → Nat) (B mid d : Nat) : Prop :=
  p.tables.exec = Jvm.exec ∧ c.code = mB mid ∧ c.maxLocals = mL mid ∧ s.vm.findClass (mN mid).cls = some m.cls ∧ s0.WarmedH s.vm ∧ (∀ w ∈ lw_tbl, w.before a0 s0 = true) ∧ sm_K s0 dC dI ∧ sm_φ φ B ∧ (∀ q ∈ sKl, ∃ tx, vk_R q.1.1 q.1.2 tx (φ.1 q.2) s0) ∧ d ≤ R.frames ∧ d * kL ≤ R.locals ∧ ((mN mid).name = "<init>" → meth.name = "<init>")
theorem sm_X.w (X : sm_X p R s m meth c s0 a0 φ dC dI B mid d) {w : Cond} (h : tw w) : w.before args s = true := sm_at X.2.2.2.2.1 h.2 (X.2.2.2.2.2.1 w h.1)
/-- getfield -/
theorem sm_getf (X : sm_X p R s m meth c s0 a0 φ dC dI B mid d) {x : Nat} {st' : List Value} (hF : sm_F mid pc (.getfield x) 3) (ho : am_getf x h st = some st') (k : sm_G p l e R s m args below meth c Q s0 φ dC dI B nL cells slots (pc + 3) ls st' h) : sm_G p l e R s m args below meth c Q s0 φ dC dI B nL cells slots pc ls st h := by
  obtain ⟨hx, hb, hml, hown, hW, hT, hK, hφ, -⟩ := id X
  obtain ⟨hk, hca, -, y, hd, hl⟩ := hF
  have hal := hW.alike
  unfold am_getf at ho
  split at ho
  · rename_i r rest
    split at ho
    · rename_i ci fs hr
      split at ho
      · rename_i hci
        subst hci
        split at ho
        · rename_i v hv
          cases ho
          intro H locs cls hH hL hq
          obtain ⟨cell, g1, g2, g3, g4, g0, g5, g7, g6⟩ := hH.2.2.1 r _ hr
          obtain ⟨cf, kf, fi, f, f1, f2, f3⟩ := hK.1 _ _ hca hk
          obtain ⟨kf', f4⟩ := sm_ff hal f1
          have hs := g6 _ v hv
          rw [← f2] at hs
          rcases hl with hl | ⟨host, hl⟩
          · exact W.getf hx hb hown (X.w hl) f4 f3 g1 g2 hs rfl rfl hd (k H locs cls hH hL hq)
          · exact va_Wgetf hx hb hown (X.w hl) f4 f3 g1 g2 hs rfl rfl hd (k H locs cls hH hL hq)
        · cases ho
      · cases ho
    · cases ho
  · cases ho
/-- putfield -/
theorem sm_putf (X : sm_X p R s m meth c s0 a0 φ dC dI B mid d) {x : Nat} {st' : List Value} {h' : AH} (hF : sm_F mid pc (.putfield x) 3) (ho : am_putf x h st = some (st', h')) (k : sm_G p l e R s m args below meth c Q s0 φ dC dI B nL cells slots (pc + 3) ls st' h') : sm_G p l e R s m args below meth c Q s0 φ dC dI B nL cells slots pc ls st h := by
  obtain ⟨hx, hb, hml, hown, hW, hT, hK, hφ, -, -, -, hini⟩ := id X
  obtain ⟨hk, hca, -, y, hd, hl⟩ := hF
  have hal := hW.alike
  unfold am_putf at ho
  split at ho
  · rename_i v r rest
    split at ho
    · rename_i ci fs hr
      split at ho
      · rename_i hc
        obtain ⟨hci, hkl, hsr, hnar, hfit⟩ := hc
        subst hci
        cases ho
        intro H locs cls hH hL hq
        obtain ⟨cell, g1, g2, g3, g4, g0, g5, g7, g6⟩ := hH.2.2.1 r _ hr
        have g4 := g4 hsr
        obtain ⟨hS, hfc, kC, hkC, hkind⟩ := u_Kn_moved hal (hK.2.1 _ hca)
        have hts : ∀ w ∈ u_ws (cN (am_fc x)) (cT (am_fc x)) (cS (am_fc x)), w.before args s = true := fun w hw => X.w (nm_lay _ hca w hw)
        obtain ⟨cf, kf, fi, f, hi, hsl⟩ := hS _ hk
        have hlays := u_lays hts (fun w hw => hw) hk
        have hst := (u_facts hfc hkC hlays hi).1
        have hd2 := nm_ty _ hca _ hk
        obtain ⟨hn', hf'⟩ := sm_fit φ hnar hfit
        have hslot : ∃ v0, cell.slots[f.slot]? = some v0 := by
          obtain ⟨v0, hv0⟩ : ∃ v0, fs[am_fk x]? = some v0 := ⟨_, List.getElem?_eq_getElem hkl⟩
          exact ⟨_, by rw [hsl]; exact g6 _ v0 hv0⟩
        obtain ⟨v0, hv0⟩ := hslot
        have hlt : f.slot < cell.slots.size := k2_hasslot hv0
        have fin : ∀ (H' : Heap) (locs' : List Loc), H'[φ.1 r]? = some (cell.setSlot f.slot (sm_v φ v)) → H'.size = H.size → (∀ q, q ≠ φ.1 r → H'[q]? = H[q]?) → sm_H s0 φ dC dI B H' (h.set r (.inr (am_fc x), fs.set (am_fk x) v)) := by
          intro H' locs' e1 e2 e3
          refine hH.set hφ hsr e2 e3 ⟨_, e1, g2, g3, fun _ => g4, g0, g5, by rw [List.length_set]; exact g7, fun j w hw => ?_⟩
          rw [List.getElem?_set] at hw
          by_cases hj : am_fk x = j
          · rw [if_pos hj, if_pos hkl] at hw
            cases hw
            rw [← hj, ← hsl]
            exact Cell.slots_setSlot_self (sm_v φ v) hlt
          · rw [if_neg hj] at hw
            have hjl : j < cS (am_fc x) ∨ cS (am_fc x) ≤ j := Nat.lt_or_ge _ _
            rcases hjl with hjl | hjl
            · obtain ⟨cf2, kf2, fi2, f2, hi2, hsl2⟩ := hS _ hjl
              have hne : f.name ≠ f2.name := by
                rw [(State.fieldFound?_type hi hd2).1, (State.fieldFound?_type hi2 (nm_ty _ hca _ hjl)).1]
                exact nm_ne _ hca _ hk _ hjl hj
              have hap := u_apart hlays (u_lays hts (fun w hw => hw) hjl) hi hi2 hne
              rw [← hsl2, slot_ne _ _ hap, hsl2]
              exact g6 j w hw
            · exact absurd (List.getElem?_eq_some_iff.mp hw).1 (by have g7 : fs.length = cS (am_fc x) := g7; omega)
        rcases hl with ⟨hfin, hl⟩ | ⟨hfin, hdecl, hnm, hl⟩
        · have hlay := hts _ (u_in_lay hk)
          unfold u_lay at hlay
          rw [if_neg (by rw [hfin]; decide)] at hlay
          have h6 := u_store hfc hkC hkind hlay hi hd2 hn' hf'
          rw [← g5] at h6
          rcases hl with hl | ⟨host, hl⟩
          · refine W.putK hx hb (f := f) ⟨hown, X.w hl, ⟨_, _, _, hi⟩, hst⟩ h6 g1 g4 hlt rfl rfl hd fun H' e1 e2 e3 => ?_
            exact k H' _ cls (fin H' [] e1 e2 e3) hL (sm_locs hφ hsr hq)
          · refine va_WputK hx hb (f := f) hown (X.w hl) hi hst h6 g1 g4 hlt rfl rfl hd fun H' e1 e2 e3 => ?_
            exact k H' _ cls (fin H' [] e1 e2 e3) hL (sm_locs hφ hsr hq)
        · have hlay := hts _ (u_in_lay hk)
          unfold u_lay at hlay
          rw [if_pos hfin] at hlay
          have hcf : m.cls = cf := by
            obtain ⟨_, _, c', _, _, _, -, -, hf2, -, -, -, hown2, -⟩ := Cond.laysFinal_spec hlay
            have e1 : c' = cf := by have := hi.symm.trans hf2; simp at this; exact this.1.symm
            rw [hdecl] at hown2
            rw [← e1]; exact Option.some.inj (hown.symm.trans hown2)
          have h6 := u_fits hfc hkC hkind (Or.inr hlay) hi hd2 hn' hf'
          rw [← g5] at h6
          refine W.putFinK hx hb hown (X.w hl) hi hst hcf (hini hnm) h6 g1 g4 hlt rfl rfl hd fun H' e1 e2 e3 => ?_
          exact k H' _ cls (fin H' [] e1 e2 e3) hL (sm_locs hφ hsr hq)
      · cases ho
    · cases ho
  · cases ho

/-- new -/
theorem sm_new (X : sm_X p R s m meth c s0 a0 φ dC dI B mid d) {ci : Nat} (hF : sm_F mid pc (.new ci) 3) (hc : cells + 1 ≤ R.cells) (hsl : slots + cS ci ≤ R.slots) (k : sm_G p l e R s m args below meth c Q s0 φ dC dI B nL (cells + 1) (slots + cS ci) (pc + 3) ls (.ref h.length :: st) (h ++ [(.inr ci, (List.range (cS ci)).map fun k => defaultValue (cF ci k))])) : sm_G p l e R s m args below meth c Q s0 φ dC dI B nL cells slots pc ls st h := by
  obtain ⟨hx, hb, hml, hown, hW, hT, hK, hφ, -⟩ := id X
  obtain ⟨hca, -, x, hd, w1, w2, w3⟩ := hF
  have hal := hW.alike
  intro H locs cls hH hL hq
  have hKn := u_Kn_moved hal (hK.2.1 _ hca)
  have hts : ∀ w ∈ u_ws (cN ci) (cT ci) (cS ci), w.before args s = true := fun w hw => X.w (nm_lay _ hca w hw)
  refine W.newcK hx hb hown (X.w w1) (X.w w2) (X.w w3) rfl hd hc hsl hKn.2.1 rfl fun H1 kC hkC e1 z1 o1 => ?_
  have e := hH.top hφ
  obtain ⟨cell, t1, t2, t3, t4⟩ := u_born (cF ci) hts (fun w hw => hw) hKn hkC e1 (nm_ty _ hca)
  have hn : sm_H s0 φ dC dI B H1 (h ++ [(.inr ci, (List.range (cS ci)).map fun k => defaultValue (cF ci k))]) := by
    refine hH.push hφ z1 o1 ⟨cell, by rw [e]; exact t1, (by rw [t3]; exact fun q => by cases q), (fun q q2 => by rw [t3] at q2; cases q2), fun _ => t3, Nat.lt_of_lt_of_le hca nm_cO, t2, by simp, fun j v hv => ?_⟩
    have hj : j < cS ci := by
      have := (List.getElem?_eq_some_iff.mp hv).1
      simpa using this
    have hv' : v = defaultValue (cF ci j) := by
      simp [List.getElem?_map, List.getElem?_range hj] at hv
      exact hv.symm
    rw [hv', sm_def]
    exact t4 j hj
  have := k H1 locs cls hn hL hq
  rw [show sm_s φ (.ref h.length :: st) = .ref H.size :: sm_s φ st by rw [← e]; rfl] at this
  exact this
/-- newarray -/
theorem sm_newa (X : sm_X p R s m meth c s0 a0 φ dC dI B mid d) {t : ArrayType} {n : Int32} (hF : sm_F mid pc (.newarray t) 2) (hn : ¬ n < 0) (hby : n.toNatClampNeg * componentBytes (newarray.typeOf t) ≤ 536870912) (hc : cells + 1 ≤ R.cells) (hsl : slots + n.toNatClampNeg ≤ R.slots)
    (k : sm_G p l e R s m args below meth c Q s0 φ dC dI B nL (cells + 1) (slots + n.toNatClampNeg) (pc + 2) ls (.ref h.length :: st) (h ++ [(.inl (newarray.typeOf t), List.replicate n.toNatClampNeg (defaultValue (newarray.typeOf t)))])) : sm_G p l e R s m args below meth c Q s0 φ dC dI B nL cells slots pc ls (.int n :: st) h := by
  obtain ⟨hx, hb, hml, hown, hW, hT, hK, hφ, -⟩ := id X
  obtain ⟨hd, -, w1⟩ := hF
  have hal := hW.alike
  intro H locs cls hH hL hq
  refine W.newa hx hb (X.w w1) rfl hd rfl hn hby hc hsl fun cA kA comp h1 h2 h3 => ?_
  have e := hH.top hφ
  obtain ⟨k', hk', he⟩ := hal.symm.2.2 _ _ h2
  have hak : sm_ak s0 cA (newarray.typeOf t) := ⟨k', comp, hk', by rw [he]; exact h3, (fun C q => by cases t <;> cases q)⟩
  have hdv : fits (newarray.typeOf t) (defaultValue (newarray.typeOf t)) = true := by cases t <;> decide
  have hn : sm_H s0 φ dC dI B (H.push { cls := cA, slots := Array.replicate n.toNatClampNeg (defaultValue (newarray.typeOf t)), vm := .none }) (h ++ [(.inl (newarray.typeOf t), List.replicate n.toNatClampNeg (defaultValue (newarray.typeOf t)))]) := by
    refine hH.push hφ (by simp) (fun q hq => by rw [Array.getElem?_push, if_neg (Nat.ne_of_lt hq)]) ⟨{ cls := cA, slots := Array.replicate n.toNatClampNeg (defaultValue (newarray.typeOf t)), vm := .none }, by rw [e]; simp, (fun q => by cases q), (fun q q2 => by cases q2), fun _ => rfl, hak, by simp, by simp, fun _ v hv => ?_, fun j v hv => ?_⟩
    · rw [(List.mem_replicate.mp hv).2]
      exact hdv
    · have hj : j < n.toNatClampNeg := by
        have := (List.getElem?_eq_some_iff.mp hv).1
        simpa using this
      have hv' : v = defaultValue (newarray.typeOf t) := by
        rw [List.getElem?_replicate, if_pos hj] at hv
        exact (Option.some.inj hv).symm
      rw [hv', sm_def]
      simp [Array.getElem?_replicate, hj]
  have := k _ locs cls hn hL hq
  rw [show sm_s φ (.ref h.length :: st) = .ref H.size :: sm_s φ st by rw [← e]; rfl] at this
  exact this
/-- anewarray -/
theorem sm_anew (X : sm_X p R s m meth c s0 a0 φ dC dI B mid d) {ci : Nat} {n : Int32} (hF : sm_F mid pc (.anewarray ci) 3) (hn : ¬ n < 0) (hby : n.toNatClampNeg * 4 ≤ 536870912) (hc : cells + 1 ≤ R.cells) (hsl : slots + n.toNatClampNeg ≤ R.slots)
    (k : sm_G p l e R s m args below meth c Q s0 φ dC dI B nL (cells + 1) (slots + n.toNatClampNeg) (pc + 3) ls (.ref h.length :: st) (h ++ [(.inl (.object (cN ci)), List.replicate n.toNatClampNeg .null)])) : sm_G p l e R s m args below meth c Q s0 φ dC dI B nL cells slots pc ls (.int n :: st) h := by
  obtain ⟨hx, hb, hml, hown, hW, hT, hK, hφ, -⟩ := id X
  obtain ⟨-, x, hd, w1, w2⟩ := hF
  have hal := hW.alike
  intro H locs cls hH hL hq
  refine W.anew hx hb hown (X.w w1) (X.w w2) rfl hd rfl hn hby hc hsl fun cA kA comp h1 h2 h3 h4 => ?_
  have e := hH.top hφ
  obtain ⟨k', hk', he⟩ := hal.symm.2.2 _ _ h2
  have hak : sm_ak s0 cA (.object (cN ci)) := ⟨k', comp, hk', by rw [he]; exact h3, (fun C q => by cases q; rw [← hal.findClass]; exact h4)⟩
  have hn : sm_H s0 φ dC dI B (H.push { cls := cA, slots := Array.replicate n.toNatClampNeg .null, vm := .none }) (h ++ [(.inl (.object (cN ci)), List.replicate n.toNatClampNeg .null)]) := by
    refine hH.push hφ (by simp) (fun q hq => by rw [Array.getElem?_push, if_neg (Nat.ne_of_lt hq)]) ⟨{ cls := cA, slots := Array.replicate n.toNatClampNeg .null, vm := .none }, by rw [e]; simp, (fun q => by cases q), (fun q q2 => by cases q2), fun _ => rfl, hak, by simp, by simp, (fun q => by cases q), fun j v hv => ?_⟩
    have hj : j < n.toNatClampNeg := by
      have := (List.getElem?_eq_some_iff.mp hv).1
      simpa using this
    have hv' : v = .null := by
      rw [List.getElem?_replicate, if_pos hj] at hv
      exact (Option.some.inj hv).symm
    rw [hv']
    simp [Array.getElem?_replicate, hj, sm_v]
  have := k _ locs cls hn hL hq
  rw [show sm_s φ (.ref h.length :: st) = .ref H.size :: sm_s φ st by rw [← e]; rfl] at this
  exact this
theorem am_ald_inv {ok : FieldType → Bool} {st' : List Value} (ho : am_ald ok h st = some st') : ∃ (i : Int32) (r : Nat) (rest : List Value) (ty : FieldType) (vs : List Value) (v : Value), st = .int i :: .ref r :: rest ∧ h[r]? = some (.inl ty, vs) ∧ ok ty = true ∧ ¬ i < 0 ∧ vs[i.toNatClampNeg]? = some v ∧ st' = v :: rest := by
  unfold am_ald at ho
  split at ho
  · rename_i i r rest
    split at ho
    · rename_i ty vs hr
      split at ho
      · rename_i hc
        split at ho
        · rename_i v hv
          cases ho
          exact ⟨i, r, rest, ty, vs, v, rfl, hr, hc.1, hc.2, hv, rfl⟩
        · cases ho
      · cases ho
    · cases ho
  · cases ho
theorem sm_arr (X : sm_X p R s m meth c s0 a0 φ dC dI B mid d) {H : Heap} {r : Nat} {ty : FieldType} {vs : List Value} {i : Int32} {v : Value} (hH : sm_H s0 φ dC dI B H h) (hr : h[r]? = some (.inl ty, vs)) (hi : ¬ i < 0) (hv : vs[i.toNatClampNeg]? = some v) :
    ∃ cell : Cell, H[φ.1 r]? = some cell ∧ s.isArrayOf cell ty ∧ cell.vm ≠ .unknown ∧ ¬ (i < 0 ∨ cell.slots.size ≤ i.toNatClampNeg) ∧ cell.slots[i.toNatClampNeg]? = some (sm_v φ v) := by
  obtain ⟨cell, g1, g2, g3, g4, g5, g6, g7, g8, g9⟩ := hH.2.2.1 r _ hr
  have hlt : i.toNatClampNeg < vs.length := (List.getElem?_eq_some_iff.mp hv).1
  have g6 : vs.length ≤ cell.slots.size := g6
  exact ⟨cell, g1, (g5.moved X.2.2.2.2.1.alike).of rfl g3, g2, (fun q => by rcases q with q | q; exact hi q; omega), g9 _ v hv⟩
theorem sm_len (X : sm_X p R s m meth c s0 a0 φ dC dI B mid d) {r : Nat} {ty : FieldType} {vs : List Value} (hd : decode (mB mid) pc = .ok (.arraylength, 1)) (hr : h[r]? = some (.inl ty, vs)) (k : sm_G p l e R s m args below meth c Q s0 φ dC dI B nL cells slots (pc + 1) ls (.int (Int32.ofNat vs.length) :: st) h) : sm_G p l e R s m args below meth c Q s0 φ dC dI B nL cells slots pc ls (.ref r :: st) h := by
  intro H locs cls hH hL hq
  obtain ⟨cell, g1, g2, g3, g4, g5, g6, g7, g8, g9⟩ := hH.2.2.1 r _ hr
  exact W.alen (n := Int32.ofNat vs.length) X.1 X.2.1 g1 ((g5.moved X.2.2.2.2.1.alike).of rfl g3) g7 rfl rfl hd (k H locs cls hH hL hq)
theorem am_ast_inv {ok : FieldType → Bool} {r : Nat} {i : Int32} {v : FieldType → Value} {h' : AH} (ho : am_ast ok h r i v = some h') : ∃ (ty : FieldType) (vs : List Value), h[r]? = some (.inl ty, vs) ∧ ok ty = true ∧ ¬ i < 0 ∧ i.toNatClampNeg < vs.length ∧ sN ≤ r ∧ h' = h.set r (.inl ty, vs.set i.toNatClampNeg (v ty)) := by
  unfold am_ast at ho
  split at ho
  · rename_i ty vs hr
    split at ho
    · rename_i hc
      cases ho
      exact ⟨ty, vs, hr, hc.1, hc.2.1, hc.2.2.1, hc.2.2.2, rfl⟩
    · cases ho
  · cases ho
/-- what a store in an array leaves -/
theorem sm_stored (X : sm_X p R s m meth c s0 a0 φ dC dI B mid d) {H H' : Heap} {r j : Nat} {ty : FieldType} {vs : List Value} {v : Value} {cell : Cell} (hH : sm_H s0 φ dC dI B H h) (hr : h[r]? = some (.inl ty, vs)) (hj : j < vs.length) (hs : sN ≤ r) (hc : H[φ.1 r]? = some cell) (hf : am_prim ty = true → fits ty v = true)
    (e1 : H'[φ.1 r]? = some (cell.setSlot j (sm_v φ v))) (e2 : H'.size = H.size) (e3 : ∀ q, q ≠ φ.1 r → H'[q]? = H[q]?) : sm_H s0 φ dC dI B H' (h.set r (.inl ty, vs.set j v)) := by
  obtain ⟨cell', g1, g2, g3, g4, g5, g6, g7, g8, g9⟩ := hH.2.2.1 r _ hr
  cases hc.symm.trans g1
  have g6 : vs.length ≤ cell.slots.size := g6
  refine hH.set X.2.2.2.2.2.2.2.1 hs e2 e3 ⟨_, e1, g2, g3, g4, g5, ?_, ?_, fun hp w hw => ?_, fun i w hw => ?_⟩
  · rw [k2_slotsz, List.length_set]; exact g6
  · rw [k2_slotsz, List.length_set]; exact g7
  · rcases List.mem_or_eq_of_mem_set hw with hw | hw
    · exact g8 hp w hw
    · rw [hw]; exact hf hp
  · rw [List.getElem?_set] at hw
    by_cases hi : j = i
    · subst hi
      rw [if_pos rfl, if_pos hj] at hw
      cases hw
      exact Cell.slots_setSlot_self (sm_v φ v) (by omega)
    · rw [if_neg hi] at hw
      rw [slot_ne _ _ hi]
      exact g9 i w hw
theorem sm_arrW (X : sm_X p R s m meth c s0 a0 φ dC dI B mid d) {H : Heap} {r : Nat} {ty : FieldType} {vs : List Value} {i : Int32} (hH : sm_H s0 φ dC dI B H h) (hr : h[r]? = some (.inl ty, vs)) (hi : ¬ i < 0) (hv : i.toNatClampNeg < vs.length) :
    ∃ cell : Cell, H[φ.1 r]? = some cell ∧ s.isArrayOf cell ty ∧ cell.vm ≠ .unknown ∧ ¬ (i < 0 ∨ cell.slots.size ≤ i.toNatClampNeg) ∧ (∀ k, cell.vm ≠ .statics k) ∧ sm_ak s cell.cls ty := by
  obtain ⟨cell, g1, g2, g3, g4, g5, g6, g7, g8, g9⟩ := hH.2.2.1 r _ hr
  have g6 : vs.length ≤ cell.slots.size := g6
  exact ⟨cell, g1, (g5.moved X.2.2.2.2.1.alike).of rfl g3, g2, (fun q => by rcases q with q | q; exact hi q; omega), g3, g5.moved X.2.2.2.2.1.alike⟩
theorem sm_nfit {ty : FieldType} (x : Int32) (h : ty = .byte ∨ ty = .boolean ∨ ty = .char) : fits ty (narrow ty (.int x)) = true ∧ ∀ φ : (Nat → Nat) × Option Nat, sm_v φ (narrow ty (.int x)) = narrow ty (.int x) := by
  rcases h with h | h | h <;> subst h
  · refine ⟨?_, fun _ => rfl⟩
    show (-128 ≤ x.toInt8.toInt32 && x.toInt8.toInt32 ≤ 127) = true
    have h1 : x.toInt8.toInt32.toInt = x.toInt8.toInt := by simp
    have h2 := Int8.le_toInt x.toInt8
    have h3 := Int8.toInt_lt x.toInt8
    simp only [Bool.and_eq_true, decide_eq_true_eq, Int32.le_iff_toInt_le, h1]
    refine ⟨?_, ?_⟩
    · show (-128 : Int32).toInt ≤ _
      have : (-128 : Int32).toInt = -128 := by decide
      omega
    · show _ ≤ (127 : Int32).toInt
      have : (127 : Int32).toInt = 127 := by decide
      omega
  · refine ⟨?_, fun _ => rfl⟩
    show (x &&& 1 == 0 || x &&& 1 == 1) = true
    obtain ⟨j, hj, e⟩ := pk_andE x (m := 1) 1 (by decide)
    rw [e]
    rcases (show j = 0 ∨ j = 1 by omega) with q | q <;> subst q <;> decide
  · refine ⟨?_, fun _ => rfl⟩
    show (0 ≤ x.toUInt32.toUInt16.toUInt32.toInt32 && x.toUInt32.toUInt16.toUInt32.toInt32 ≤ 65535) = true
    have h0 : x.toUInt32.toUInt16.toUInt32.toInt32.toInt = (x.toUInt32.toUInt16.toNat : Int) := by
      generalize x.toUInt32.toUInt16 = y
      have hlt := y.toNat_lt
      have e1 : y.toUInt32.toNat = y.toNat := by simp
      have e2 : y.toUInt32.toBitVec.toNat = y.toNat := e1
      show y.toUInt32.toBitVec.toInt = _
      rw [BitVec.toInt_eq_toNat_cond, e2]
      split <;> omega
    have hlt := x.toUInt32.toUInt16.toNat_lt
    simp only [Bool.and_eq_true, decide_eq_true_eq, Int32.le_iff_toInt_le, h0]
    refine ⟨?_, ?_⟩
    · show (0 : Int32).toInt ≤ _
      have : (0 : Int32).toInt = 0 := by decide
      omega
    · show _ ≤ (65535 : Int32).toInt
      have : (65535 : Int32).toInt = 65535 := by decide
      omega
end SG
end
section

/-! THE SIMULATION -/
theorem am_nx_inv {o : Option (List Value)} {pc len : Nat} {ls : AL} {h : AH} {pc' : Nat} {ls' : AL} {st' : List Value} {h' : AH} (hs : am_nx pc len ls h o = some (pc', ls', st', h')) : o = some st' ∧ pc' = pc + len ∧ ls' = ls ∧ h' = h := by
  cases o with
  | none => cases hs
  | some x => cases hs; exact ⟨rfl, rfl, rfl, rfl⟩
theorem am_nh_inv {o : Option (List Value × AH)} {pc len : Nat} {ls : AL} {pc' : Nat} {ls' : AL} {st' : List Value} {h' : AH} (hs : am_nh pc len ls o = some (pc', ls', st', h')) : o = some (st', h') ∧ pc' = pc + len ∧ ls' = ls := by
  cases o with
  | none => cases hs
  | some x => cases hs; exact ⟨rfl, rfl, rfl⟩
theorem am_as_inv {o : Option AH} {pc len : Nat} {ls : AL} {rest : List Value} {pc' : Nat} {ls' : AL} {st' : List Value} {h' : AH} (hs : am_as pc len ls rest o = some (pc', ls', st', h')) : o = some h' ∧ pc' = pc + len ∧ ls' = ls ∧ st' = rest := by
  cases o with
  | none => cases hs
  | some x => cases hs; exact ⟨rfl, rfl, rfl, rfl⟩
theorem am_i_inv {f : Int32 → Value} {st st' : List Value} (h : am_i f st = some st') : ∃ (x : Int32) (r : List Value), st = .int x :: r ∧ st' = f x :: r := by
  unfold am_i at h
  split at h
  · cases h; exact ⟨_, _, rfl, rfl⟩
  · cases h
theorem am_l_inv {f : Int64 → Value} {st st' : List Value} (h : am_l f st = some st') : ∃ (x : Int64) (r : List Value), st = .long x :: r ∧ st' = f x :: r := by
  unfold am_l at h
  split at h
  · cases h; exact ⟨_, _, rfl, rfl⟩
  · cases h
theorem am_f_inv {f : UInt32 → Value} {st st' : List Value} (h : am_f f st = some st') : ∃ (x : UInt32) (r : List Value), st = .float x :: r ∧ st' = f x :: r := by
  unfold am_f at h
  split at h
  · cases h; exact ⟨_, _, rfl, rfl⟩
  · cases h
theorem am_ii_inv {f : Int32 → Int32 → Value} {st st' : List Value} (h : am_ii f st = some st') : ∃ (x y : Int32) (r : List Value), st = .int y :: .int x :: r ∧ st' = f x y :: r := by
  unfold am_ii at h
  split at h
  · cases h; exact ⟨_, _, _, rfl, rfl⟩
  · cases h
theorem am_ll_inv {f : Int64 → Int64 → Value} {st st' : List Value} (h : am_ll f st = some st') : ∃ (x y : Int64) (r : List Value), st = .long y :: .long x :: r ∧ st' = f x y :: r := by
  unfold am_ll at h
  split at h
  · cases h; exact ⟨_, _, _, rfl, rfl⟩
  · cases h
theorem am_li_inv {f : Int64 → Int32 → Value} {st st' : List Value} (h : am_li f st = some st') : ∃ (x : Int64) (y : Int32) (r : List Value), st = .int y :: .long x :: r ∧ st' = f x y :: r := by
  unfold am_li at h
  split at h
  · cases h; exact ⟨_, _, _, rfl, rfl⟩
  · cases h
theorem am_iid_inv {f : Int32 → Int32 → Value} {st st' : List Value} (h : am_iid f st = some st') : ∃ (x y : Int32) (r : List Value), st = .int y :: .int x :: r ∧ ¬ y = 0 ∧ st' = f x y :: r := by
  unfold am_iid at h
  split at h
  · split at h
    · cases h
    · rename_i hy
      cases h; exact ⟨_, _, _, rfl, hy, rfl⟩
  · cases h
theorem am_lld_inv {f : Int64 → Int64 → Value} {st st' : List Value} (h : am_lld f st = some st') : ∃ (x y : Int64) (r : List Value), st = .long y :: .long x :: r ∧ ¬ y = 0 ∧ st' = f x y :: r := by
  unfold am_lld at h
  split at h
  · split at h
    · cases h
    · rename_i hy
      cases h; exact ⟨_, _, _, rfl, hy, rfl⟩
  · cases h

theorem sm_off (pc : Nat) (x d : Int) (ps : List (Int × Int)) : Op.lookupswitch.offset (ps.map fun q => (q.1, (pc : Int) + q.2)) ((pc : Int) + d) x = (pc : Int) + Op.lookupswitch.offset ps d x := by
  induction ps with
  | nil => rfl
  | cons a r ih =>
    obtain ⟨a, o⟩ := a
    rw [List.map_cons, Op.lookupswitch.offset_cons, Op.lookupswitch.offset_cons, ih]
    by_cases h : a = x <;> simp [h]
theorem sm_off0 {x d : Int} {ps : List (Int × Int)} (hd : 0 ≤ d) (hp : ∀ q ∈ ps, 0 ≤ q.2) : 0 ≤ Op.lookupswitch.offset ps d x := by
  induction ps with
  | nil => exact hd
  | cons a r ih =>
    obtain ⟨a, o⟩ := a
    rw [Op.lookupswitch.offset_cons]
    split
    · exact hp (a, o) List.mem_cons_self
    · exact ih fun q hq => hp q (List.mem_cons_of_mem _ hq)
theorem sm_offT (pc : Nat) (x d lo : Int) : ∀ (offs : List Int) (n : Nat), (¬ (lo + n ≤ x ∧ x < lo + n + offs.length) → Op.lookupswitch.offset ((offs.zipIdx n).map fun q => (lo + (q.2 : Int), (pc : Int) + q.1)) d x = d) ∧
    ∀ o, lo + n ≤ x → offs[(x - lo - n).toNat]? = some o → Op.lookupswitch.offset ((offs.zipIdx n).map fun q => (lo + (q.2 : Int), (pc : Int) + q.1)) d x = (pc : Int) + o := by
  intro offs
  induction offs with
  | nil =>
    intro n
    exact ⟨fun _ => rfl, fun o _ h => by simp at h⟩
  | cons a r ih =>
    intro n
    rw [List.zipIdx_cons, List.map_cons, Op.lookupswitch.offset_cons]
    obtain ⟨i1, i2⟩ := ih (n + 1)
    refine ⟨fun h => ?_, fun o h1 h2 => ?_⟩
    · rw [if_neg (fun q => h ⟨by simp at q ⊢; omega, by simp at q ⊢; omega⟩)]
      exact i1 fun q => h ⟨by simp at q ⊢; omega, by simp at q ⊢; omega⟩
    · by_cases hx : lo + (n : Int) = x
      · rw [if_pos hx]
        rw [show (x - lo - n).toNat = 0 by omega] at h2
        simp at h2
        rw [h2]
      · rw [if_neg hx]
        refine i2 o (by simp; omega) ?_
        rw [show (x - lo - n).toNat = (x - lo - ((n + 1 : Nat) : Int)).toNat + 1 by simp; omega] at h2
        simpa using h2
section SONE
variable {p : Program} {l : Launch} {e : Env} {R : Room} {s : State} {m : MethodId} {args : Array Value} {below : List Frame} {meth : Method} {c : Code} {Q : State → Prop}
variable {s0 : State} {φ : (Nat → Nat) × Option Nat} {dC : Nat → ClassId} {dI : Nat → Nat → Nat} {B nL cells slots cells' slots' mid pc pc' d len : Nat} {a0 : Array Value} {ls ls' : AL} {st st' : List Value} {h h' : AH} {i : Instr}
theorem am_sz_app (h : AH) (x : AC) : am_sz (h ++ [x]) = am_sz h + x.2.length := by simp [am_sz]
theorem am_sz_set {h : AH} {r : Nat} {t : FieldType ⊕ Nat} {vs vs' : List Value} (hr : h[r]? = some (t, vs)) (hl : vs'.length = vs.length) : am_sz (h.set r (t, vs')) = am_sz h := by
  induction h generalizing r with
  | nil => simp at hr
  | cons a h ih =>
    cases r with
    | zero =>
      simp at hr
      subst hr
      simp [am_sz, hl]
    | succ r =>
      simp at hr
      show a.2.length + am_sz (h.set r (t, vs')) = a.2.length + am_sz h
      rw [ih hr]

theorem am_if_inv {kc : ClassFile.Cond} {t : Int} (hs : am_step d (.ifCond kc t) 3 pc ls st h = some (pc', ls', st', h')) : ∃ (x : Int32) (r : List Value), st = .int x :: r ∧ pc' = (if am_c1 kc x = true then t.toNat else pc + 3) ∧ ls' = ls ∧ st' = r ∧ h' = h := by
  match st, hs with
  | .int x :: r, hs =>
    replace hs : some ((if am_c1 kc x = true then t.toNat else pc + 3), ls, r, h) = some (pc', ls', st', h') := hs
    cases hs
    exact ⟨x, _, rfl, rfl, rfl, rfl, rfl⟩
  | [], hs => cases hs
  | .long _ :: _, hs => cases hs
  | .float _ :: _, hs => cases hs
  | .double _ :: _, hs => cases hs
  | .null :: _, hs => cases hs
  | .ref _ :: _, hs => cases hs
  | .retAddr _ :: _, hs => cases hs
theorem am_ic_inv {kc : ClassFile.Cond} {t : Int} (hs : am_step d (.if_icmp kc t) 3 pc ls st h = some (pc', ls', st', h')) : ∃ (x y : Int32) (r : List Value), st = .int y :: .int x :: r ∧ pc' = (if am_c2 kc x y = true then t.toNat else pc + 3) ∧ ls' = ls ∧ st' = r ∧ h' = h := by
  replace hs : (match (generalizing := false) (match (generalizing := false) st with | .int y :: .int x :: r => some (if am_c2 kc x y = true then t.toNat else pc + 3, r) | _ => none) with | some (pc', st') => some (pc', ls, st', h) | none => none) = some (pc', ls', st', h') := hs
  split at hs
  · rename_i q1 q2 hbr
    split at hbr
    · cases hbr
      cases hs
      exact ⟨_, _, _, rfl, rfl, rfl, rfl, rfl⟩
    · cases hbr
  · cases hs
theorem am_sw_inv {dd : Int} {ps : Array (Int × Int)} (hs : am_step d (.lookupswitch dd ps) len pc ls st h = some (pc', ls', st', h')) : ∃ (x : Int32) (r : List Value), st = .int x :: r ∧ pc' = (Op.lookupswitch.offset ps.toList dd x.toInt).toNat ∧ ls' = ls ∧ st' = r ∧ h' = h := by
  replace hs : (match (generalizing := false) (match (generalizing := false) st with | .int x :: r => some ((Op.lookupswitch.offset ps.toList dd x.toInt).toNat, r) | _ => none) with | some (pc', st') => some (pc', ls, st', h) | none => none) = some (pc', ls', st', h') := hs
  split at hs
  · rename_i q1 q2 hbr
    split at hbr
    · cases hbr
      cases hs
      exact ⟨_, _, rfl, rfl, rfl, rfl, rfl⟩
    · cases hbr
  · cases hs
theorem am_putf_sz {x : Nat} (ho : am_putf x h st = some (st', h')) : h'.length = h.length ∧ am_sz h' = am_sz h := by
  unfold am_putf at ho
  split at ho
  · split at ho
    · rename_i hr
      split at ho
      · cases ho
        exact ⟨List.length_set .., am_sz_set hr (List.length_set ..)⟩
      · cases ho
    · cases ho
  · cases ho
theorem am_cp_len {f g : List Value} {sp dp n : Nat} (h1 : sp + n ≤ f.length) (h2 : dp + n ≤ g.length) : (am_cp f g sp dp n).length = g.length := by
  unfold am_cp
  simp
  omega
theorem am_copy_inv (ho : am_copy d h st = some (st', h')) : ∃ (n dp sp : Int32) (a b : Nat) (ty : FieldType) (f g : List Value), st = .int n :: .int dp :: .ref b :: .int sp :: .ref a :: st' ∧ h[a]? = some (.inl ty, f) ∧ h[b]? = some (.inl ty, g) ∧ 1 ≤ d ∧ am_cat st' ≤ 8 ∧ am_prim ty = true ∧ ¬ n < 0 ∧ ¬ dp < 0 ∧ ¬ sp < 0 ∧ sp.toNatClampNeg + n.toNatClampNeg ≤ f.length ∧ dp.toNatClampNeg + n.toNatClampNeg ≤ g.length ∧ sN ≤ b ∧ h' = h.set b (.inl ty, am_cp f g sp.toNatClampNeg dp.toNatClampNeg n.toNatClampNeg) := by
  unfold am_copy at ho
  split at ho
  · rename_i n dp b sp a rest
    split at ho
    · rename_i t0 f t1 g ha hb
      split at ho
      · rename_i hc
        obtain ⟨c1, c2, c3, c4, c5, c6, c7, c8, c9, c10⟩ := hc
        subst c3
        cases ho
        exact ⟨n, dp, sp, a, b, t0, f, g, rfl, ha, hb, c1, c2, c4, c5, c6, c7, c8, c9, c10, rfl⟩
      · cases ho
    · cases ho
  · cases ho
theorem am_copy_sz (ho : am_copy d h st = some (st', h')) : h'.length = h.length ∧ am_sz h' = am_sz h := by
  obtain ⟨n, dp, sp, a, b, ty, f, g, -, ha, hb, -, -, -, -, -, -, h1, h2, -, rfl⟩ := am_copy_inv ho
  exact ⟨List.length_set .., am_sz_set hb (am_cp_len h1 h2)⟩
theorem am_cp_get {f g : List Value} {sp dp n j : Nat} (h1 : sp + n ≤ f.length) (h2 : dp + n ≤ g.length) : (am_cp f g sp dp n)[j]? = if dp ≤ j ∧ j < dp + n then f[sp + (j - dp)]? else g[j]? := by
  unfold am_cp
  rw [List.append_assoc, List.getElem?_append, List.length_take, Nat.min_eq_left (by omega)]
  by_cases hj : j < dp
  · rw [if_pos hj, if_neg (by omega), List.getElem?_take, if_pos hj]
  · rw [if_neg hj, List.getElem?_append, List.length_take, List.length_drop, Nat.min_eq_left (by omega)]
    by_cases hj2 : j < dp + n
    · rw [if_pos (by omega), if_pos ⟨by omega, hj2⟩, List.getElem?_take, if_pos (by omega), List.getElem?_drop]
    · rw [if_neg (by omega), if_neg (fun q => hj2 q.2), List.getElem?_drop]
      congr 1
      omega
theorem sm_pr {ty : FieldType} {r : Nat} (h : am_prim ty = true) : fits ty (.ref r) = false := by cases ty <;> first | rfl | cases h
/-- System.arraycopy -/
theorem sm_copy (X : sm_X p R s m meth c s0 a0 φ dC dI B mid d) (hF : sm_F mid pc .monitorexit 3) (ho : am_copy d h st = some (st', h')) (k : sm_G p l e R s m args below meth c Q s0 φ dC dI B nL cells slots (pc + 3) ls st' h') (hnL : nL = mL mid) : sm_G p l e R s m args below meth c Q s0 φ dC dI B nL cells slots pc ls st h := by
  obtain ⟨hx, hb, hml, hown, hW, hT, hK, hφ, hSt, hRf, hRl, -⟩ := id X
  obtain ⟨-, x, hd, w1, w2, w3, w4⟩ := hF
  have hal := hW.alike
  obtain ⟨n, dp, sp, a, b, ty, f, g, rfl, ha, hbb, hd1, hcat, hprim, hn, hdp, hsp, hf, hg, hsb, rfl⟩ := am_copy_inv ho
  intro H locs cls hH hL hq T hT' Xs
  obtain ⟨cs, s1, s2, s3, s4, s5, s6, s7, s8, s9⟩ := hH.2.2.1 a _ ha
  obtain ⟨cd, d1, d2, d3, d4, d5, d6, d7, d8, d9⟩ := hH.2.2.1 b _ hbb
  have s6 : f.length ≤ cs.slots.size := s6
  have d6 : g.length ≤ cd.slots.size := d6
  obtain ⟨ks, c0, k1, k2, -⟩ := s5.moved hal
  obtain ⟨kd, c1, k3, k4, -⟩ := d5.moved hal
  have hrk : refKind ty = false := by cases ty <;> first | rfl | cases hprim
  obtain ⟨vm', X', step⟩ := Xs.arraycopy hx hown (X.w w1) (X.w w2) (X.w w3) (X.w w4) (src := φ.1 a) (dst := φ.1 b) (cs := cs) (cd := cd) (srcPos := sp) (destPos := dp) (n := n) (by rw [hT']; exact s1) (by rw [hT']; exact d1)
    s3 d3 s2 d2 k1 k3 k2 k4 (by simp [hrk]) hsp hdp hn (by rw [sm_clamp hsp, sm_clamp hn]; omega) (by rw [sm_clamp hdp, sm_clamp hn]; omega)
    (fun vm₁ _ i hi => by
      obtain ⟨v, hv⟩ : ∃ v, f[sp.toNatClampNeg + i]? = some v := ⟨_, List.getElem?_eq_getElem (by omega)⟩
      have hfit := s8 hprim v (List.mem_of_getElem? hv)
      have e : cs.slots.getD (sp.toNatClampNeg + i) .null = v := by
        rw [Array.getD_eq_getD_getElem?, s9 _ v hv, sm_prim_v φ hprim hfit]
        rfl
      rw [e]
      refine ⟨hfit, ?_⟩
      cases v with
      | ref r => exact absurd hfit (by rw [sm_pr hprim]; decide)
      | _ => trivial)
    (g := F0 m pc cls (sm_s φ (.int n :: .int dp :: .ref b :: .int sp :: .ref a :: st'))) rfl (by rw [hml]; exact hL.2.1.trans hnL) (rest := sm_s φ st') rfl (by rw [hb]; exact hd) (Nat.le_trans hd1 hRf)
    (by
      show 2 * 0 + ((sm_s φ st').map fun v => v.category).sum + _ ≤ R.locals
      rw [sm_cats]
      have := Nat.mul_le_mul_right kL hd1
      have := kL_ok
      omega)
  have hl : φ.1 b < H.size := (Array.getElem?_eq_some_iff.mp d1).1
  obtain ⟨z1, z2, z3, -⟩ := Cell.storeRun_facts cd dp.toNatClampNeg (cs.stretch sp.toNatClampNeg n.toNatClampNeg)
  have hsl : (cs.stretch sp.toNatClampNeg n.toNatClampNeg).length = n.toNatClampNeg := by simp [Cell.stretch]
  have hN : sm_H s0 φ dC dI B (H.setIfInBounds (φ.1 b) (copied cs cd sp dp n)) (h.set b (.inl ty, am_cp f g sp.toNatClampNeg dp.toNatClampNeg n.toNatClampNeg)) := by
    refine hH.set hφ hsb (by simp) (fun q hq => by simp [Array.getElem?_setIfInBounds, Ne.symm hq]) ⟨copied cs cd sp dp n, by simp [Array.getElem?_setIfInBounds, hl], by rw [z2]; exact d2, fun q => by rw [z2]; exact d3 q, fun q => by rw [z2]; exact d4 q, by rw [z1]; exact d5, ?_, ?_, fun _ v hv => ?_, fun j v hv => ?_⟩
    · rw [z3, am_cp_len hf hg]; exact d6
    · rw [z3, am_cp_len hf hg]; exact d7
    · unfold am_cp at hv
      rcases List.mem_append.mp hv with hv | hv
      · rcases List.mem_append.mp hv with hv | hv
        · exact d8 hprim v (List.mem_of_mem_take hv)
        · exact s8 hprim v (List.mem_of_mem_drop (List.mem_of_mem_take hv))
      · exact d8 hprim v (List.mem_of_mem_drop hv)
    · rw [am_cp_get hf hg] at hv
      rw [Cell.storeRun_get _ _ _ _ (by rw [hsl]; omega), hsl]
      by_cases hj : dp.toNatClampNeg ≤ j ∧ j < dp.toNatClampNeg + n.toNatClampNeg
      · rw [if_pos hj] at hv ⊢
        have := s9 _ v hv
        unfold Cell.stretch
        rw [List.getElem?_map, List.getElem?_range (by omega)]
        show some (cs.slots.getD _ _) = _
        rw [Array.getD_eq_getD_getElem?, this]
        rfl
      · rw [if_neg hj] at hv ⊢
        exact d9 j v hv
  obtain ⟨t, a1, b1⟩ := k (H.setIfInBounds (φ.1 b) (copied cs cd sp dp n)) _ cls hN hL (fun q hq' => by
      rcases List.mem_append.mp hq' with h | h
      · exact hq q h
      · obtain ⟨z, -, hz⟩ := List.mem_map.mp h
        rw [← hz]
        have := hφ.2 b hsb
        show B ≤ φ.1 b
        omega) _ (by rw [← hT']; rfl) X'
  exact ⟨t, step t a1, b1⟩

set_option maxHeartbeats 4000000 in
theorem sm_one (X : sm_X p R s m meth c s0 a0 φ dC dI B mid d) (hnL : nL = mL mid) (hF : sm_F mid pc i len) (hs : am_step d i len pc ls st h = some (pc', ls', st', h')) (hc : cells' + h.length = cells + h'.length) (hz : slots' + am_sz h = slots + am_sz h') (hcR : cells' ≤ R.cells) (hsR : slots' ≤ R.slots) (k : sm_G p l e R s m args below meth c Q s0 φ dC dI B nL cells' slots' pc' ls' st' h') : sm_G p l e R s m args below meth c Q s0 φ dC dI B nL cells slots pc ls st h := by
  obtain ⟨hx, hb, hml, hown, hW, hT, hK, hφ, hSt, hRf, hRl, hini⟩ := id X
  rw [← hnL] at hml
  have hal := hW.alike
  cases i with
  | iadd =>
    obtain ⟨hd, rfl⟩ := hF
    obtain ⟨ho, rfl, rfl, rfl⟩ := am_nx_inv hs
    obtain ⟨x, y, r, rfl, rfl⟩ := am_ii_inv ho
    obtain rfl : cells' = cells := by omega
    obtain rfl : slots' = slots := by omega
    exact fun H locs cls hH hL hq => lv_iadd hx hb hd (k H locs cls hH hL hq)
  | isub =>
    obtain ⟨hd, rfl⟩ := hF
    obtain ⟨ho, rfl, rfl, rfl⟩ := am_nx_inv hs
    obtain ⟨x, y, r, rfl, rfl⟩ := am_ii_inv ho
    obtain rfl : cells' = cells := by omega
    obtain rfl : slots' = slots := by omega
    exact fun H locs cls hH hL hq => lv_isub hx hb hd (k H locs cls hH hL hq)
  | imul =>
    obtain ⟨hd, rfl⟩ := hF
    obtain ⟨ho, rfl, rfl, rfl⟩ := am_nx_inv hs
    obtain ⟨x, y, r, rfl, rfl⟩ := am_ii_inv ho
    obtain rfl : cells' = cells := by omega
    obtain rfl : slots' = slots := by omega
    exact fun H locs cls hH hL hq => lv_imul hx hb hd (k H locs cls hH hL hq)
  | iand =>
    obtain ⟨hd, rfl⟩ := hF
    obtain ⟨ho, rfl, rfl, rfl⟩ := am_nx_inv hs
    obtain ⟨x, y, r, rfl, rfl⟩ := am_ii_inv ho
    obtain rfl : cells' = cells := by omega
    obtain rfl : slots' = slots := by omega
    exact fun H locs cls hH hL hq => lv_iand hx hb hd (k H locs cls hH hL hq)
  | ior =>
    obtain ⟨hd, rfl⟩ := hF
    obtain ⟨ho, rfl, rfl, rfl⟩ := am_nx_inv hs
    obtain ⟨x, y, r, rfl, rfl⟩ := am_ii_inv ho
    obtain rfl : cells' = cells := by omega
    obtain rfl : slots' = slots := by omega
    exact fun H locs cls hH hL hq => lv_ior hx hb hd (k H locs cls hH hL hq)
  | ixor =>
    obtain ⟨hd, rfl⟩ := hF
    obtain ⟨ho, rfl, rfl, rfl⟩ := am_nx_inv hs
    obtain ⟨x, y, r, rfl, rfl⟩ := am_ii_inv ho
    obtain rfl : cells' = cells := by omega
    obtain rfl : slots' = slots := by omega
    exact fun H locs cls hH hL hq => lv_ixor hx hb hd (k H locs cls hH hL hq)
  | ishl =>
    obtain ⟨hd, rfl⟩ := hF
    obtain ⟨ho, rfl, rfl, rfl⟩ := am_nx_inv hs
    obtain ⟨x, y, r, rfl, rfl⟩ := am_ii_inv ho
    obtain rfl : cells' = cells := by omega
    obtain rfl : slots' = slots := by omega
    exact fun H locs cls hH hL hq => lv_ishl hx hb hd (k H locs cls hH hL hq)
  | ishr =>
    obtain ⟨hd, rfl⟩ := hF
    obtain ⟨ho, rfl, rfl, rfl⟩ := am_nx_inv hs
    obtain ⟨x, y, r, rfl, rfl⟩ := am_ii_inv ho
    obtain rfl : cells' = cells := by omega
    obtain rfl : slots' = slots := by omega
    exact fun H locs cls hH hL hq => lv_ishr hx hb hd (k H locs cls hH hL hq)
  | iushr =>
    obtain ⟨hd, rfl⟩ := hF
    obtain ⟨ho, rfl, rfl, rfl⟩ := am_nx_inv hs
    obtain ⟨x, y, r, rfl, rfl⟩ := am_ii_inv ho
    obtain rfl : cells' = cells := by omega
    obtain rfl : slots' = slots := by omega
    exact fun H locs cls hH hL hq => lv_iushr hx hb hd rfl (k H locs cls hH hL hq)
  | idiv =>
    obtain ⟨hd, rfl⟩ := hF
    obtain ⟨ho, rfl, rfl, rfl⟩ := am_nx_inv hs
    obtain ⟨x, y, r, rfl, hy, rfl⟩ := am_iid_inv ho
    obtain rfl : cells' = cells := by omega
    obtain rfl : slots' = slots := by omega
    exact fun H locs cls hH hL hq => lv_idiv hx hb hd hy (k H locs cls hH hL hq)
  | irem =>
    obtain ⟨hd, rfl⟩ := hF
    obtain ⟨ho, rfl, rfl, rfl⟩ := am_nx_inv hs
    obtain ⟨x, y, r, rfl, hy, rfl⟩ := am_iid_inv ho
    obtain rfl : cells' = cells := by omega
    obtain rfl : slots' = slots := by omega
    exact fun H locs cls hH hL hq => lv_irem hx hb hd hy (k H locs cls hH hL hq)
  | ineg =>
    obtain ⟨hd, rfl⟩ := hF
    obtain ⟨ho, rfl, rfl, rfl⟩ := am_nx_inv hs
    obtain ⟨x, r, rfl, rfl⟩ := am_i_inv ho
    obtain rfl : cells' = cells := by omega
    obtain rfl : slots' = slots := by omega
    exact fun H locs cls hH hL hq => lv_ineg hx hb hd (k H locs cls hH hL hq)
  | ladd =>
    obtain ⟨hd, rfl⟩ := hF
    obtain ⟨ho, rfl, rfl, rfl⟩ := am_nx_inv hs
    obtain ⟨x, y, r, rfl, rfl⟩ := am_ll_inv ho
    obtain rfl : cells' = cells := by omega
    obtain rfl : slots' = slots := by omega
    exact fun H locs cls hH hL hq => lv_ladd hx hb hd (k H locs cls hH hL hq)
  | lsub =>
    obtain ⟨hd, rfl⟩ := hF
    obtain ⟨ho, rfl, rfl, rfl⟩ := am_nx_inv hs
    obtain ⟨x, y, r, rfl, rfl⟩ := am_ll_inv ho
    obtain rfl : cells' = cells := by omega
    obtain rfl : slots' = slots := by omega
    exact fun H locs cls hH hL hq => lv_lsub hx hb hd (k H locs cls hH hL hq)
  | lmul =>
    obtain ⟨hd, rfl⟩ := hF
    obtain ⟨ho, rfl, rfl, rfl⟩ := am_nx_inv hs
    obtain ⟨x, y, r, rfl, rfl⟩ := am_ll_inv ho
    obtain rfl : cells' = cells := by omega
    obtain rfl : slots' = slots := by omega
    exact fun H locs cls hH hL hq => lv_lmul hx hb hd (k H locs cls hH hL hq)
  | land =>
    obtain ⟨hd, rfl⟩ := hF
    obtain ⟨ho, rfl, rfl, rfl⟩ := am_nx_inv hs
    obtain ⟨x, y, r, rfl, rfl⟩ := am_ll_inv ho
    obtain rfl : cells' = cells := by omega
    obtain rfl : slots' = slots := by omega
    exact fun H locs cls hH hL hq => lv_land hx hb hd (k H locs cls hH hL hq)
  | lor =>
    obtain ⟨hd, rfl⟩ := hF
    obtain ⟨ho, rfl, rfl, rfl⟩ := am_nx_inv hs
    obtain ⟨x, y, r, rfl, rfl⟩ := am_ll_inv ho
    obtain rfl : cells' = cells := by omega
    obtain rfl : slots' = slots := by omega
    exact fun H locs cls hH hL hq => lv_lor hx hb hd (k H locs cls hH hL hq)
  | lxor =>
    obtain ⟨hd, rfl⟩ := hF
    obtain ⟨ho, rfl, rfl, rfl⟩ := am_nx_inv hs
    obtain ⟨x, y, r, rfl, rfl⟩ := am_ll_inv ho
    obtain rfl : cells' = cells := by omega
    obtain rfl : slots' = slots := by omega
    exact fun H locs cls hH hL hq => lv_lxor hx hb hd (k H locs cls hH hL hq)
  | lcmp =>
    obtain ⟨hd, rfl⟩ := hF
    obtain ⟨ho, rfl, rfl, rfl⟩ := am_nx_inv hs
    obtain ⟨x, y, r, rfl, rfl⟩ := am_ll_inv ho
    obtain rfl : cells' = cells := by omega
    obtain rfl : slots' = slots := by omega
    exact fun H locs cls hH hL hq => W.lcmp hx hb hd (k H locs cls hH hL hq)
  | ldiv =>
    obtain ⟨hd, rfl⟩ := hF
    obtain ⟨ho, rfl, rfl, rfl⟩ := am_nx_inv hs
    obtain ⟨x, y, r, rfl, hy, rfl⟩ := am_lld_inv ho
    obtain rfl : cells' = cells := by omega
    obtain rfl : slots' = slots := by omega
    exact fun H locs cls hH hL hq => lv_ldiv hx hb hd hy (k H locs cls hH hL hq)
  | lrem =>
    obtain ⟨hd, rfl⟩ := hF
    obtain ⟨ho, rfl, rfl, rfl⟩ := am_nx_inv hs
    obtain ⟨x, y, r, rfl, hy, rfl⟩ := am_lld_inv ho
    obtain rfl : cells' = cells := by omega
    obtain rfl : slots' = slots := by omega
    exact fun H locs cls hH hL hq => lv_lrem hx hb hd hy (k H locs cls hH hL hq)
  | lneg =>
    obtain ⟨hd, rfl⟩ := hF
    obtain ⟨ho, rfl, rfl, rfl⟩ := am_nx_inv hs
    obtain ⟨x, r, rfl, rfl⟩ := am_l_inv ho
    obtain rfl : cells' = cells := by omega
    obtain rfl : slots' = slots := by omega
    exact fun H locs cls hH hL hq => lv_lneg hx hb hd (k H locs cls hH hL hq)
  | lshl =>
    obtain ⟨hd, rfl⟩ := hF
    obtain ⟨ho, rfl, rfl, rfl⟩ := am_nx_inv hs
    obtain ⟨x, y, r, rfl, rfl⟩ := am_li_inv ho
    obtain rfl : cells' = cells := by omega
    obtain rfl : slots' = slots := by omega
    exact fun H locs cls hH hL hq => lv_lshl hx hb hd rfl (k H locs cls hH hL hq)
  | lshr =>
    obtain ⟨hd, rfl⟩ := hF
    obtain ⟨ho, rfl, rfl, rfl⟩ := am_nx_inv hs
    obtain ⟨x, y, r, rfl, rfl⟩ := am_li_inv ho
    obtain rfl : cells' = cells := by omega
    obtain rfl : slots' = slots := by omega
    exact fun H locs cls hH hL hq => lv_lshr hx hb hd rfl (k H locs cls hH hL hq)
  | lushr =>
    obtain ⟨hd, rfl⟩ := hF
    obtain ⟨ho, rfl, rfl, rfl⟩ := am_nx_inv hs
    obtain ⟨x, y, r, rfl, rfl⟩ := am_li_inv ho
    obtain rfl : cells' = cells := by omega
    obtain rfl : slots' = slots := by omega
    exact fun H locs cls hH hL hq => lv_lushr hx hb hd rfl (k H locs cls hH hL hq)
  | i2l =>
    obtain ⟨hd, rfl⟩ := hF
    obtain ⟨ho, rfl, rfl, rfl⟩ := am_nx_inv hs
    obtain ⟨x, r, rfl, rfl⟩ := am_i_inv ho
    obtain rfl : cells' = cells := by omega
    obtain rfl : slots' = slots := by omega
    exact fun H locs cls hH hL hq => lv_i2l hx hb hd rfl (k H locs cls hH hL hq)
  | i2b =>
    obtain ⟨hd, rfl⟩ := hF
    obtain ⟨ho, rfl, rfl, rfl⟩ := am_nx_inv hs
    obtain ⟨x, r, rfl, rfl⟩ := am_i_inv ho
    obtain rfl : cells' = cells := by omega
    obtain rfl : slots' = slots := by omega
    exact fun H locs cls hH hL hq => lv_i2b hx hb hd rfl (k H locs cls hH hL hq)
  | i2s =>
    obtain ⟨hd, rfl⟩ := hF
    obtain ⟨ho, rfl, rfl, rfl⟩ := am_nx_inv hs
    obtain ⟨x, r, rfl, rfl⟩ := am_i_inv ho
    obtain rfl : cells' = cells := by omega
    obtain rfl : slots' = slots := by omega
    exact fun H locs cls hH hL hq => lv_i2s hx hb hd rfl (k H locs cls hH hL hq)
  | i2c =>
    obtain ⟨hd, rfl⟩ := hF
    obtain ⟨ho, rfl, rfl, rfl⟩ := am_nx_inv hs
    obtain ⟨x, r, rfl, rfl⟩ := am_i_inv ho
    obtain rfl : cells' = cells := by omega
    obtain rfl : slots' = slots := by omega
    exact fun H locs cls hH hL hq => lv_i2c hx hb hd rfl (k H locs cls hH hL hq)
  | l2i =>
    obtain ⟨hd, rfl⟩ := hF
    obtain ⟨ho, rfl, rfl, rfl⟩ := am_nx_inv hs
    obtain ⟨x, r, rfl, rfl⟩ := am_l_inv ho
    obtain rfl : cells' = cells := by omega
    obtain rfl : slots' = slots := by omega
    exact fun H locs cls hH hL hq => lv_l2i hx hb hd rfl (k H locs cls hH hL hq)
  | i2f =>
    obtain ⟨hd, rfl⟩ := hF
    obtain ⟨ho, rfl, rfl, rfl⟩ := am_nx_inv hs
    obtain ⟨x, r, rfl, rfl⟩ := am_i_inv ho
    obtain rfl : cells' = cells := by omega
    obtain rfl : slots' = slots := by omega
    exact fun H locs cls hH hL hq => lv_i2f hx hb hd (k H locs cls hH hL hq)
  | f2l =>
    obtain ⟨hd, rfl⟩ := hF
    obtain ⟨ho, rfl, rfl, rfl⟩ := am_nx_inv hs
    obtain ⟨x, r, rfl, rfl⟩ := am_f_inv ho
    obtain rfl : cells' = cells := by omega
    obtain rfl : slots' = slots := by omega
    exact fun H locs cls hH hL hq => lv_f2l hx hb hd (k H locs cls hH hL hq)
  | aconst_null =>
    obtain ⟨hd, rfl⟩ := hF
    replace hs : some (pc + 1, ls, Value.null :: st, h) = some (pc', ls', st', h') := hs
    cases hs
    obtain rfl : cells' = cells := by omega
    obtain rfl : slots' = slots := by omega
    exact fun H locs cls hH hL hq => lv_null hx hb hd (k H locs cls hH hL hq)
  | iconst n =>
    replace hs : some (pc + len, ls, Value.int (Int32.ofInt n) :: st, h) = some (pc', ls', st', h') := hs
    cases hs
    obtain rfl : cells' = cells := by omega
    obtain rfl : slots' = slots := by omega
    rcases hF with ⟨hd, rfl⟩ | ⟨hd, rfl, e1⟩ | ⟨hd, rfl, e1⟩ | ⟨x, hd, rfl, w⟩
    · exact fun H locs cls hH hL hq => lv_iconst hx hb hd rfl (k H locs cls hH hL hq)
    · exact fun H locs cls hH hL hq => lv_bipush hx hb hd e1 (k H locs cls hH hL hq)
    · exact fun H locs cls hH hL hq => lv_sipush hx hb hd e1 (k H locs cls hH hL hq)
    · exact fun H locs cls hH hL hq => lv_ldc hx hb hown (X.w w) hd (k H locs cls hH hL hq)
  | ldc2_w n =>
    replace hs : some (pc + len, ls, Value.long (Int64.ofNat n) :: st, h) = some (pc', ls', st', h') := hs
    cases hs
    obtain rfl : cells' = cells := by omega
    obtain rfl : slots' = slots := by omega
    rcases hF with ⟨kk, hd, rfl, e1⟩ | ⟨x, hd, rfl, w⟩
    · exact fun H locs cls hH hL hq => lv_lconst hx hb hd e1 (k H locs cls hH hL hq)
    · exact fun H locs cls hH hL hq => lv_ldc2 hx hb hown (X.w w) hd (k H locs cls hH hL hq)
  | ldc r =>
    obtain ⟨x, hd, rfl, hm⟩ := hF
    replace hs : some (pc + 2, ls, Value.ref r :: st, h) = some (pc', ls', st', h') := hs
    cases hs
    obtain rfl : cells' = cells := by omega
    obtain rfl : slots' = slots := by omega
    obtain ⟨tx, hz⟩ := hSt _ hm
    exact fun H locs cls hH hL hq => va_ldcS hx hb hown (hz.warm hW) hd (k H locs cls hH hL hq)
  | getstatic z =>
    obtain ⟨x, hd, rfl, hzk, w⟩ := hF
    replace hs : some (pc + 3, ls, Value.int (zV z) :: st, h) = some (pc', ls', st', h') := hs
    cases hs
    obtain rfl : cells' = cells := by omega
    obtain rfl : slots' = slots := by omega
    intro H locs cls hH hL hq
    obtain ⟨cf, kf, fi, f, a, cell, q1, q2, q3, q4, q5, q6, q7, q8⟩ := (hH.2.2.2.1 z hzk).moved hal
    exact W.gets hx hb hown (X.w w) q1 q2 q3 q4 q5 (fun q => by rw [q] at q6; cases q6) q7 rfl hd (k H locs cls hH hL hq)
  | nop =>
    obtain ⟨rfl, x, hd, w⟩ := hF
    replace hs : some (pc + 3, ls, Value.retAddr 0 :: st, h) = some (pc', ls', st', h') := hs
    cases hs
    obtain rfl : cells' = cells := by omega
    obtain rfl : slots' = slots := by omega
    intro H locs cls hH hL hq
    obtain ⟨cf, kf, fi, f, a, cell, q1, q2, q3, q4, q5, q6, q7, q8⟩ := hH.2.2.2.2.moved hal
    exact W.gets hx hb hown (X.w w) q1 q2 q3 q4 q5 (fun q => by rw [q] at q6; cases q6) q7 rfl hd (k H locs cls hH hL hq)
  | iload j =>
    replace hs : (match (generalizing := false) am_get ls j with | some (.int x) => am_nx pc len ls h (some (.int x :: st)) | _ => none) = some (pc', ls', st', h') := hs
    split at hs
    · rename_i x hg
      obtain ⟨ho, rfl, rfl, rfl⟩ := am_nx_inv hs
      cases ho
      obtain rfl : cells' = cells := by omega
      obtain rfl : slots' = slots := by omega
      rcases hF with ⟨hd, rfl⟩ | ⟨kk, hd, hk, rfl⟩
      · exact fun H locs cls hH hL hq => lv_iload hx hb hd (hL.get hg) (k H locs cls hH hL hq)
      · exact fun H locs cls hH hL hq => lv_iload_n hx hb hd hk (hL.get hg) (k H locs cls hH hL hq)
    · cases hs
  | lload j =>
    replace hs : (match (generalizing := false) am_get ls j with | some (.long x) => am_nx pc len ls h (some (.long x :: st)) | _ => none) = some (pc', ls', st', h') := hs
    split at hs
    · rename_i x hg
      obtain ⟨ho, rfl, rfl, rfl⟩ := am_nx_inv hs
      cases ho
      obtain rfl : cells' = cells := by omega
      obtain rfl : slots' = slots := by omega
      rcases hF with ⟨hd, rfl⟩ | ⟨kk, hd, hk, rfl⟩
      · exact fun H locs cls hH hL hq => lv_lload hx hb hd (hL.get hg) (k H locs cls hH hL hq)
      · exact fun H locs cls hH hL hq => lv_lload_n hx hb hd hk (hL.get hg) (k H locs cls hH hL hq)
    · cases hs
  | aload j =>
    replace hs : (match (generalizing := false) am_get ls j with | some (.ref x) => am_nx pc len ls h (some (.ref x :: st)) | some .null => am_nx pc len ls h (some (.null :: st)) | _ => none) = some (pc', ls', st', h') := hs
    split at hs
    · rename_i x hg
      obtain ⟨ho, rfl, rfl, rfl⟩ := am_nx_inv hs
      cases ho
      obtain rfl : cells' = cells := by omega
      obtain rfl : slots' = slots := by omega
      rcases hF with ⟨hd, rfl⟩ | ⟨kk, hd, hk, rfl⟩
      · exact fun H locs cls hH hL hq => lv_aload hx hb hd (hL.get hg) (k H locs cls hH hL hq)
      · exact fun H locs cls hH hL hq => lv_aload_n hx hb hd hk (hL.get hg) (k H locs cls hH hL hq)
    · rename_i hg
      obtain ⟨ho, rfl, rfl, rfl⟩ := am_nx_inv hs
      cases ho
      obtain rfl : cells' = cells := by omega
      obtain rfl : slots' = slots := by omega
      rcases hF with ⟨hd, rfl⟩ | ⟨kk, hd, hk, rfl⟩
      · exact fun H locs cls hH hL hq => lv_aloadN hx hb hd (hL.get hg) (k H locs cls hH hL hq)
      · exact fun H locs cls hH hL hq => lv_aload_nN hx hb hd hk (hL.get hg) (k H locs cls hH hL hq)
    · cases hs
  | istore j =>
    replace hs : (match (generalizing := false) st with | .int x :: r => if j < ls.length then some (pc + len, am_st1 ls j (.int x), r, h) else none | _ => none) = some (pc', ls', st', h') := hs
    split at hs
    · rename_i x r
      split at hs
      · rename_i hj
        cases hs
        obtain rfl : cells' = cells := by omega
        obtain rfl : slots' = slots := by omega
        rcases hF with ⟨hd, rfl⟩ | ⟨kk, hd, hk, rfl⟩
        · exact fun H locs cls hH hL hq => lv_istore hx hb hd hL.2 (by rw [← hL.1]; exact hj) rfl (fun cls' hl' => k H locs cls' hH (hL.st1 hl') hq)
        · exact fun H locs cls hH hL hq => lv_istore_n hx hb hd hk hL.2 (by rw [← hL.1]; exact hj) rfl (fun cls' hl' => k H locs cls' hH (hL.st1 hl') hq)
      · cases hs
    · cases hs
  | lstore j =>
    replace hs : (match (generalizing := false) st with | .long x :: r => if j + 1 < ls.length then some (pc + len, am_st2 ls j (.long x), r, h) else none | _ => none) = some (pc', ls', st', h') := hs
    split at hs
    · rename_i x r
      split at hs
      · rename_i hj
        cases hs
        obtain rfl : cells' = cells := by omega
        obtain rfl : slots' = slots := by omega
        rcases hF with ⟨hd, rfl⟩ | ⟨kk, hd, hk, rfl⟩
        · exact fun H locs cls hH hL hq => lv_lstore hx hb hd hL.2 (by rw [← hL.1]; exact hj) rfl (fun cls' hl' => k H locs cls' hH (hL.st2 hl') hq)
        · exact fun H locs cls hH hL hq => lv_lstore_n hx hb hd hk hL.2 (by rw [← hL.1]; exact hj) rfl (fun cls' hl' => k H locs cls' hH (hL.st2 hl') hq)
      · cases hs
    · cases hs
  | astore j =>
    replace hs : (match (generalizing := false) st with | .ref x :: r => if j < ls.length then some (pc + len, am_st1 ls j (.ref x), r, h) else none | .null :: r => if j < ls.length then some (pc + len, am_st1 ls j .null, r, h) else none | _ => none) = some (pc', ls', st', h') := hs
    split at hs
    · rename_i x r
      split at hs
      · rename_i hj
        cases hs
        obtain rfl : cells' = cells := by omega
        obtain rfl : slots' = slots := by omega
        rcases hF with ⟨hd, rfl⟩ | ⟨kk, hd, hk, rfl⟩
        · exact fun H locs cls hH hL hq => lv_astore hx hb hd hL.2 (by rw [← hL.1]; exact hj) rfl (fun cls' hl' => k H locs cls' hH (hL.st1 hl') hq)
        · exact fun H locs cls hH hL hq => lv_astore_n hx hb hd hk hL.2 (by rw [← hL.1]; exact hj) rfl (fun cls' hl' => k H locs cls' hH (hL.st1 hl') hq)
      · cases hs
    · rename_i r
      split at hs
      · rename_i hj
        cases hs
        obtain rfl : cells' = cells := by omega
        obtain rfl : slots' = slots := by omega
        rcases hF with ⟨hd, rfl⟩ | ⟨kk, hd, hk, rfl⟩
        · exact fun H locs cls hH hL hq => lv_astoreN hx hb hd hL.2 (by rw [← hL.1]; exact hj) rfl (fun cls' hl' => k H locs cls' hH (hL.st1 hl') hq)
        · exact fun H locs cls hH hL hq => lv_astore_nN hx hb hd hk hL.2 (by rw [← hL.1]; exact hj) rfl (fun cls' hl' => k H locs cls' hH (hL.st1 hl') hq)
      · cases hs
    · cases hs
  | iinc j n =>
    replace hs : (match (generalizing := false) am_get ls j with | some (.int x) => if j < ls.length then some (pc + len, am_st1 ls j (.int (x + Int32.ofInt n)), st, h) else none | _ => none) = some (pc', ls', st', h') := hs
    obtain ⟨hd, rfl⟩ := hF
    split at hs
    · rename_i x hg
      split at hs
      · rename_i hj
        cases hs
        obtain rfl : cells' = cells := by omega
        obtain rfl : slots' = slots := by omega
        intro H locs cls hH hL hq
        obtain ⟨kx, hkx⟩ := hL.at hg
        exact lv_iinc hx hb hd hL.2 hkx rfl (by rw [← hL.1]; exact hj) rfl (fun cls' hl' => k H locs cls' hH (hL.st1 (v := .int (x + Int32.ofInt n)) hl') hq)
      · cases hs
    · cases hs
  | dup =>
    obtain ⟨hd, rfl⟩ := hF
    obtain ⟨ho, rfl, rfl, rfl⟩ := am_nx_inv hs
    unfold am_dup at ho
    split at ho
    · split at ho
      · rename_i hcd
        cases ho
        obtain rfl : cells' = cells := by omega
        obtain rfl : slots' = slots := by omega
        exact fun H locs cls hH hL hq => lv_dup hx hb hd (by rw [sm_cat]; exact hcd) (k H locs cls hH hL hq)
      · cases ho
    · cases ho
  | pop =>
    obtain ⟨hd, rfl⟩ := hF
    obtain ⟨ho, rfl, rfl, rfl⟩ := am_nx_inv hs
    unfold am_pop at ho
    split at ho
    · split at ho
      · rename_i hcd
        cases ho
        obtain rfl : cells' = cells := by omega
        obtain rfl : slots' = slots := by omega
        exact fun H locs cls hH hL hq => lv_pop hx hb hd (by rw [sm_cat]; exact hcd) (k H locs cls hH hL hq)
      · cases ho
    · cases ho
  | dup_x1 =>
    obtain ⟨hd, rfl⟩ := hF
    obtain ⟨ho, rfl, rfl, rfl⟩ := am_nx_inv hs
    unfold am_dupx1 at ho
    split at ho
    · split at ho
      · rename_i hcd
        cases ho
        obtain rfl : cells' = cells := by omega
        obtain rfl : slots' = slots := by omega
        exact fun H locs cls hH hL hq => lv_dup_x1 hx hb hd (by rw [sm_cat]; exact hcd.1) (by rw [sm_cat]; exact hcd.2) (k H locs cls hH hL hq)
      · cases ho
    · cases ho
  | dup_x2 =>
    obtain ⟨hd, rfl⟩ := hF
    obtain ⟨ho, rfl, rfl, rfl⟩ := am_nx_inv hs
    unfold am_dupx2 at ho
    split at ho
    · split at ho
      · rename_i hcd
        cases ho
        obtain rfl : cells' = cells := by omega
        obtain rfl : slots' = slots := by omega
        exact fun H locs cls hH hL hq => lv_dup_x2 hx hb hd (by rw [sm_cat]; exact hcd.1) (by rw [sm_cat]; exact hcd.2.1) (by rw [sm_cat]; exact hcd.2.2) (k H locs cls hH hL hq)
      · cases ho
    · cases ho
  | dup2 =>
    obtain ⟨hd, rfl⟩ := hF
    obtain ⟨ho, rfl, rfl, rfl⟩ := am_nx_inv hs
    unfold am_dup2 at ho
    split at ho
    · cases ho
      obtain rfl : cells' = cells := by omega
      obtain rfl : slots' = slots := by omega
      exact fun H locs cls hH hL hq => lv_dup2_2 hx hb hd rfl (k H locs cls hH hL hq)
    · cases ho
      obtain rfl : cells' = cells := by omega
      obtain rfl : slots' = slots := by omega
      exact fun H locs cls hH hL hq => lv_dup2_11 hx hb hd rfl rfl (k H locs cls hH hL hq)
    · cases ho
      obtain rfl : cells' = cells := by omega
      obtain rfl : slots' = slots := by omega
      exact fun H locs cls hH hL hq => lv_dup2_11 hx hb hd rfl rfl (k H locs cls hH hL hq)
    · cases ho
  | iaload =>
    obtain ⟨hd, rfl⟩ := hF
    obtain ⟨ho, rfl, rfl, rfl⟩ := am_nx_inv hs
    obtain ⟨ix, r, rest, ty, vs, v, rfl, hr, hok, hi0, hv, rfl⟩ := am_ald_inv ho
    obtain rfl : cells' = cells := by omega
    obtain rfl : slots' = slots := by omega
    intro H locs cls hH hL hq
    obtain ⟨cell, g1, g2, g3, g4, g5⟩ := sm_arr X hH hr hi0 hv
    cases ty with
    | int => exact W.iald hx hb g1 g2 g3 g4 g5 rfl rfl hd (k H locs cls hH hL hq)
    | _ => cases hok
  | baload =>
    obtain ⟨hd, rfl⟩ := hF
    obtain ⟨ho, rfl, rfl, rfl⟩ := am_nx_inv hs
    obtain ⟨ix, r, rest, ty, vs, v, rfl, hr, hok, hi0, hv, rfl⟩ := am_ald_inv ho
    obtain rfl : cells' = cells := by omega
    obtain rfl : slots' = slots := by omega
    intro H locs cls hH hL hq
    obtain ⟨cell, g1, g2, g3, g4, g5⟩ := sm_arr X hH hr hi0 hv
    cases ty with
    | byte => exact W.bald hx hb g1 g2 g3 g4 g5 rfl rfl hd (k H locs cls hH hL hq)
    | boolean => exact W.zald hx hb g1 g2 g3 g4 g5 rfl rfl hd (k H locs cls hH hL hq)
    | _ => cases hok
  | caload =>
    obtain ⟨hd, rfl⟩ := hF
    obtain ⟨ho, rfl, rfl, rfl⟩ := am_nx_inv hs
    obtain ⟨ix, r, rest, ty, vs, v, rfl, hr, hok, hi0, hv, rfl⟩ := am_ald_inv ho
    obtain rfl : cells' = cells := by omega
    obtain rfl : slots' = slots := by omega
    intro H locs cls hH hL hq
    obtain ⟨cell, g1, g2, g3, g4, g5⟩ := sm_arr X hH hr hi0 hv
    cases ty with
    | char => exact W.cald hx hb g1 g2 g3 g4 g5 rfl rfl hd (k H locs cls hH hL hq)
    | _ => cases hok
  | laload =>
    obtain ⟨hd, rfl⟩ := hF
    obtain ⟨ho, rfl, rfl, rfl⟩ := am_nx_inv hs
    obtain ⟨ix, r, rest, ty, vs, v, rfl, hr, hok, hi0, hv, rfl⟩ := am_ald_inv ho
    obtain rfl : cells' = cells := by omega
    obtain rfl : slots' = slots := by omega
    intro H locs cls hH hL hq
    obtain ⟨cell, g1, g2, g3, g4, g5⟩ := sm_arr X hH hr hi0 hv
    cases ty with
    | long => exact W.lald hx hb g1 g2 g3 g4 g5 rfl rfl hd (k H locs cls hH hL hq)
    | _ => cases hok
  | aaload =>
    obtain ⟨hd, rfl⟩ := hF
    obtain ⟨ho, rfl, rfl, rfl⟩ := am_nx_inv hs
    obtain ⟨ix, r, rest, ty, vs, v, rfl, hr, hok, hi0, hv, rfl⟩ := am_ald_inv ho
    obtain rfl : cells' = cells := by omega
    obtain rfl : slots' = slots := by omega
    intro H locs cls hH hL hq
    obtain ⟨cell, g1, g2, g3, g4, g5⟩ := sm_arr X hH hr hi0 hv
    cases ty with
    | object C => exact W.aald hx hb g1 g2 rfl g3 g4 g5 rfl rfl hd (k H locs cls hH hL hq)
    | _ => cases hok
  | arraylength =>
    obtain ⟨hd, rfl⟩ := hF
    replace hs : (match (generalizing := false) st with | .ref r :: rest => (match (generalizing := false) h[r]? with | some (.inl _, vs) => am_nx pc 1 ls h (some (.int (Int32.ofNat vs.length) :: rest)) | _ => none) | _ => none) = some (pc', ls', st', h') := hs
    split at hs
    · rename_i r rest
      split at hs
      · rename_i ty vs hr
        obtain ⟨ho, rfl, rfl, rfl⟩ := am_nx_inv hs
        cases ho
        obtain rfl : cells' = cells := by omega
        obtain rfl : slots' = slots := by omega
        exact sm_len X hd hr k
      · cases hs
    · cases hs
  | iastore =>
    obtain ⟨hd, rfl⟩ := hF
    replace hs : (match (generalizing := false) st with | .int x :: .int j :: .ref r :: rest => am_as pc 1 ls rest (am_ast am_isI h r j (fun _ => .int x)) | _ => none) = some (pc', ls', st', h') := hs
    split at hs
    · rename_i x j r rest
      obtain ⟨ho, rfl, rfl, rfl⟩ := am_as_inv hs
      obtain ⟨ty, vs, hr, hok, hj0, hj, hsr, rfl⟩ := am_ast_inv ho
      have hsz : am_sz (h.set r (.inl ty, vs.set j.toNatClampNeg (((fun _ => .int x)) ty))) = am_sz h := am_sz_set hr (List.length_set ..)
      rw [List.length_set] at hc
      rw [hsz] at hz
      obtain rfl : cells' = cells := by omega
      obtain rfl : slots' = slots := by omega
      intro H locs cls hH hL hq
      obtain ⟨cell, g1, g2, g3, g4, g5, g6⟩ := sm_arrW X hH hr hj0 hj
      cases ty with
      | int => exact W.iast hx hb g1 g2 g3 g4 rfl rfl hd (fun H' e1 e2 e3 => k H' _ cls (sm_stored X hH hr hj hsr g1 (fun _ => rfl) e1 e2 e3) hL (sm_locs hφ hsr hq))
      | _ => cases hok
    · cases hs
  | lastore =>
    obtain ⟨hd, rfl⟩ := hF
    replace hs : (match (generalizing := false) st with | .long x :: .int j :: .ref r :: rest => am_as pc 1 ls rest (am_ast am_isJ h r j (fun _ => .long x)) | _ => none) = some (pc', ls', st', h') := hs
    split at hs
    · rename_i x j r rest
      obtain ⟨ho, rfl, rfl, rfl⟩ := am_as_inv hs
      obtain ⟨ty, vs, hr, hok, hj0, hj, hsr, rfl⟩ := am_ast_inv ho
      have hsz : am_sz (h.set r (.inl ty, vs.set j.toNatClampNeg (((fun _ => .long x)) ty))) = am_sz h := am_sz_set hr (List.length_set ..)
      rw [List.length_set] at hc
      rw [hsz] at hz
      obtain rfl : cells' = cells := by omega
      obtain rfl : slots' = slots := by omega
      intro H locs cls hH hL hq
      obtain ⟨cell, g1, g2, g3, g4, g5, g6⟩ := sm_arrW X hH hr hj0 hj
      cases ty with
      | long => exact W.last hx hb g1 g2 g3 g4 rfl rfl hd (fun H' e1 e2 e3 => k H' _ cls (sm_stored X hH hr hj hsr g1 (fun _ => rfl) e1 e2 e3) hL (sm_locs hφ hsr hq))
      | _ => cases hok
    · cases hs
  | castore =>
    obtain ⟨hd, rfl⟩ := hF
    replace hs : (match (generalizing := false) st with | .int x :: .int j :: .ref r :: rest => am_as pc 1 ls rest (am_ast am_isC h r j (fun ty => narrow ty (.int x))) | _ => none) = some (pc', ls', st', h') := hs
    split at hs
    · rename_i x j r rest
      obtain ⟨ho, rfl, rfl, rfl⟩ := am_as_inv hs
      obtain ⟨ty, vs, hr, hok, hj0, hj, hsr, rfl⟩ := am_ast_inv ho
      have hsz : am_sz (h.set r (.inl ty, vs.set j.toNatClampNeg (((fun ty => narrow ty (.int x))) ty))) = am_sz h := am_sz_set hr (List.length_set ..)
      rw [List.length_set] at hc
      rw [hsz] at hz
      obtain rfl : cells' = cells := by omega
      obtain rfl : slots' = slots := by omega
      intro H locs cls hH hL hq
      obtain ⟨cell, g1, g2, g3, g4, g5, g6⟩ := sm_arrW X hH hr hj0 hj
      cases ty with
      | char => exact W.cast hx hb g1 g2 g3 g4 rfl rfl hd (fun H' e1 e2 e3 => k H' _ cls (sm_stored X hH hr hj hsr g1 (fun _ => (sm_nfit x (Or.inr (Or.inr rfl))).1) e1 e2 e3) hL (sm_locs hφ hsr hq))
      | _ => cases hok
    · cases hs
  | bastore =>
    obtain ⟨hd, rfl⟩ := hF
    replace hs : (match (generalizing := false) st with | .int x :: .int j :: .ref r :: rest => am_as pc 1 ls rest (am_ast am_isB h r j (fun ty => narrow ty (.int x))) | _ => none) = some (pc', ls', st', h') := hs
    split at hs
    · rename_i x j r rest
      obtain ⟨ho, rfl, rfl, rfl⟩ := am_as_inv hs
      obtain ⟨ty, vs, hr, hok, hj0, hj, hsr, rfl⟩ := am_ast_inv ho
      have hsz : am_sz (h.set r (.inl ty, vs.set j.toNatClampNeg (((fun ty => narrow ty (.int x))) ty))) = am_sz h := am_sz_set hr (List.length_set ..)
      rw [List.length_set] at hc
      rw [hsz] at hz
      obtain rfl : cells' = cells := by omega
      obtain rfl : slots' = slots := by omega
      intro H locs cls hH hL hq
      obtain ⟨cell, g1, g2, g3, g4, g5, g6⟩ := sm_arrW X hH hr hj0 hj
      cases ty with
      | byte => exact W.bast hx hb g1 g2 g3 g4 rfl rfl hd (fun H' e1 e2 e3 => k H' _ cls (sm_stored X hH hr hj hsr g1 (fun _ => (sm_nfit x (Or.inl rfl)).1) e1 e2 e3) hL (sm_locs hφ hsr hq))
      | boolean => exact W.zast hx hb g1 g2 g3 g4 rfl rfl hd (fun H' e1 e2 e3 => k H' _ cls (sm_stored X hH hr hj hsr g1 (fun _ => (sm_nfit x (Or.inr (Or.inl rfl))).1) e1 e2 e3) hL (sm_locs hφ hsr hq))
      | _ => cases hok
    · cases hs
  | aastore =>
    obtain ⟨hd, rfl⟩ := hF
    replace hs : (match (generalizing := false) st with | .ref x :: .int j :: .ref r :: rest => (match (generalizing := false) h[x]? with | some (.inr ci, _) => am_as pc 1 ls rest (am_ast (fun ty => decide (ty = .object (cN ci))) h r j (fun _ => .ref x)) | _ => none) | _ => none) = some (pc', ls', st', h') := hs
    split at hs
    · rename_i x j r rest
      split at hs
      · rename_i ci fs hxr
        obtain ⟨ho, rfl, rfl, rfl⟩ := am_as_inv hs
        obtain ⟨ty, vs, hr, hok, hj0, hj, hsr, rfl⟩ := am_ast_inv ho
        obtain rfl := of_decide_eq_true hok
        have hsz : am_sz (h.set r (.inl (.object (cN ci)), vs.set j.toNatClampNeg (.ref x))) = am_sz h := am_sz_set hr (List.length_set ..)
        rw [List.length_set] at hc
        rw [hsz] at hz
        obtain rfl : cells' = cells := by omega
        obtain rfl : slots' = slots := by omega
        intro H locs cls hH hL hq
        obtain ⟨cell, g1, g2, g3, g4, g5, g6⟩ := sm_arrW X hH hr hj0 hj
        obtain ⟨kA, comp, a1, a2, a3⟩ := g6
        have a3 := a3 _ rfl
        obtain ⟨cv, c1, c2, c3, c4, c0, c5, -⟩ := hH.2.2.1 x _ hxr
        have hcomp : comp = cv.cls := by
          rw [c5]
          exact Option.some.inj (a3.symm.trans (by rw [hal.findClass]; exact hK.2.2 ci c0))
        obtain ⟨kE, hkE, -⟩ := Vm.findClass_spec a3
        refine W.aast hx hb g1 g5 g3 a1 a2 rfl hkE ⟨hj0, by have := g4; omega⟩ c1 c3 (kv := kE) (by rw [← hcomp]; exact hkE) (by rw [hcomp]; exact va_asg _ _) rfl rfl hd (fun H' e1 e2 e3 => k H' _ cls (sm_stored X hH hr hj hsr g1 (fun q => by cases q) e1 e2 e3) hL (sm_locs hφ hsr hq))
      · cases hs
    · cases hs
  | getfield x =>
    obtain ⟨ho, rfl, rfl, rfl⟩ := am_nx_inv hs
    have hl3 : len = 3 := hF.2.2.1
    subst hl3
    obtain rfl : cells' = cells := by omega
    obtain rfl : slots' = slots := by omega
    exact sm_getf X hF ho k
  | putfield x =>
    obtain ⟨ho, rfl, rfl⟩ := am_nh_inv hs
    have hl3 : len = 3 := hF.2.2.1
    subst hl3
    have hcz := am_putf_sz ho
    obtain rfl : cells' = cells := by omega
    obtain rfl : slots' = slots := by omega
    exact sm_putf X hF ho k
  | new ci =>
    have hl3 : len = 3 := hF.2.1
    subst hl3
    replace hs : some (pc + 3, ls, Value.ref h.length :: st, h ++ [(Sum.inr ci, (List.range (cS ci)).map fun k => defaultValue (cF ci k))]) = some (pc', ls', st', h') := hs
    cases hs
    rw [List.length_append, List.length_singleton] at hc
    rw [am_sz_app, List.length_map, List.length_range] at hz
    obtain rfl : cells' = cells + 1 := by omega
    obtain rfl : slots' = slots + cS ci := by omega
    exact sm_new X hF hcR hsR k
  | newarray t =>
    have hl3 : len = 2 := hF.2.1
    subst hl3
    replace hs : (match (generalizing := false) st with | .int n :: r => if ¬ n < 0 ∧ n.toNatClampNeg * componentBytes (newarray.typeOf t) ≤ 536870912 then some (pc + 2, ls, .ref h.length :: r, h ++ [(.inl (newarray.typeOf t), List.replicate n.toNatClampNeg (defaultValue (newarray.typeOf t)))]) else none | _ => none) = some (pc', ls', st', h') := hs
    split at hs
    · rename_i n r
      split at hs
      · rename_i hcnd
        cases hs
        rw [List.length_append, List.length_singleton] at hc
        rw [am_sz_app, List.length_replicate] at hz
        obtain rfl : cells' = cells + 1 := by omega
        obtain rfl : slots' = slots + n.toNatClampNeg := by omega
        exact sm_newa X hF hcnd.1 hcnd.2 hcR hsR k
      · cases hs
    · cases hs
  | anewarray ci =>
    have hl3 : len = 3 := hF.1
    subst hl3
    replace hs : (match (generalizing := false) st with | .int n :: r => if ¬ n < 0 ∧ n.toNatClampNeg * 4 ≤ 536870912 then some (pc + 3, ls, .ref h.length :: r, h ++ [(.inl (.object (cN ci)), List.replicate n.toNatClampNeg .null)]) else none | _ => none) = some (pc', ls', st', h') := hs
    split at hs
    · rename_i n r
      split at hs
      · rename_i hcnd
        cases hs
        rw [List.length_append, List.length_singleton] at hc
        rw [am_sz_app, List.length_replicate] at hz
        obtain rfl : cells' = cells + 1 := by omega
        obtain rfl : slots' = slots + n.toNatClampNeg := by omega
        exact sm_anew X hF hcnd.1 hcnd.2 hcR hsR k
      · cases hs
    · cases hs
  | monitorenter =>
    obtain ⟨rfl, x, hd, w1, w2, w3⟩ := hF
    replace hs : (match (generalizing := false) st with | .ref _ :: r => if 1 ≤ d ∧ am_cat r ≤ 8 then some (pc + 3, ls, r, h) else none | _ => none) = some (pc', ls', st', h') := hs
    split at hs
    · rename_i q r
      split at hs
      · rename_i hcnd
        cases hs
        obtain rfl : cells' = cells := by omega
        obtain rfl : slots' = slots := by omega
        intro H locs cls hH hL hq
        refine W.objInit hx hb hown (X.w w1) (X.w w2) (X.w w3) rfl (by rw [hml]; exact hL.2.1) rfl hd (Nat.le_trans hcnd.1 hRf) ?_ (k H locs cls hH hL hq)
        show 2 * 0 + ((sm_s φ _).map fun v => v.category).sum + 12 ≤ R.locals
        rw [sm_cats]
        have := Nat.mul_le_mul_right kL hcnd.1
        have := kL_ok
        omega
      · cases hs
    · cases hs
  | monitorexit =>
    have hl3 : len = 3 := hF.1
    subst hl3
    obtain ⟨ho, rfl, rfl⟩ := am_nh_inv hs
    have hcz := am_copy_sz ho
    obtain rfl : cells' = cells := by omega
    obtain rfl : slots' = slots := by omega
    exact sm_copy X hF ho k hnL
  | dadd =>
    obtain ⟨rfl, w0, hd, w1, w2, w3, w4⟩ := hF
    replace hs : (match (generalizing := false) st with | .int y :: .int x :: r => if 1 ≤ d ∧ am_cat r ≤ 8 then some (pc + 3, ls, .int (if x < y then y else x) :: r, h) else none | _ => none) = some (pc', ls', st', h') := hs
    split at hs
    · rename_i y x r
      split at hs
      · rename_i hcnd
        cases hs
        obtain rfl : cells' = cells := by omega
        obtain rfl : slots' = slots := by omega
        intro H locs cls hH hL hq
        refine va_mmax hx hb (by rw [hml]; exact hL.2.1.symm) hown (X.w w1) (X.w w2) (X.w w3) (X.w w4) (Nat.le_trans hcnd.1 hRf) ?_ hcR hsR hd (k H locs cls hH hL hq)
        show ((sm_s φ r).map fun v => v.category).sum + 13 ≤ R.locals
        rw [sm_cats]
        have := Nat.mul_le_mul_right kL hcnd.1
        have := kL_ok
        have : kL = 41 := rfl
        omega
      · cases hs
    · cases hs
  | dsub =>
    obtain ⟨rfl, w0, hd, w1, w2, w3, w4⟩ := hF
    replace hs : (match (generalizing := false) st with | .int y :: .int x :: r => if 1 ≤ d ∧ am_cat r ≤ 8 then some (pc + 3, ls, .int (if y < x then y else x) :: r, h) else none | _ => none) = some (pc', ls', st', h') := hs
    split at hs
    · rename_i y x r
      split at hs
      · rename_i hcnd
        cases hs
        obtain rfl : cells' = cells := by omega
        obtain rfl : slots' = slots := by omega
        intro H locs cls hH hL hq
        refine va_mmin hx hb (by rw [hml]; exact hL.2.1.symm) hown (X.w w1) (X.w w2) (X.w w3) (X.w w4) (Nat.le_trans hcnd.1 hRf) ?_ hcR hsR hd (k H locs cls hH hL hq)
        show ((sm_s φ r).map fun v => v.category).sum + 13 ≤ R.locals
        rw [sm_cats]
        have := Nat.mul_le_mul_right kL hcnd.1
        have := kL_ok
        have : kL = 41 := rfl
        omega
      · cases hs
    · cases hs
  | dneg =>
    obtain ⟨rfl, w0, hd, w1, w2, w3, w4⟩ := hF
    replace hs : (match (generalizing := false) st with | .long x :: r => if 1 ≤ d ∧ am_cat r ≤ 8 then some (pc + 3, ls, .long (if 0 < x then x else -x) :: r, h) else none | _ => none) = some (pc', ls', st', h') := hs
    split at hs
    · rename_i x r
      split at hs
      · rename_i hcnd
        cases hs
        obtain rfl : cells' = cells := by omega
        obtain rfl : slots' = slots := by omega
        intro H locs cls hH hL hq
        refine va_mabs_long hx hb (by rw [hml]; exact hL.2.1.symm) hown (X.w w1) (X.w w2) (X.w w3) (X.w w4) (Nat.le_trans hcnd.1 hRf) ?_ hcR hsR hd (k H locs cls hH hL hq)
        show ((sm_s φ r).map fun v => v.category).sum + 13 ≤ R.locals
        rw [sm_cats]
        have := Nat.mul_le_mul_right kL hcnd.1
        have := kL_ok
        have : kL = 41 := rfl
        omega
      · cases hs
    · cases hs
  | goto t =>
    obtain ⟨off, hd, rfl, ht⟩ := hF
    replace hs : some (t.toNat, ls, st, h) = some (pc', ls', st', h') := hs
    cases hs
    obtain rfl : cells' = cells := by omega
    obtain rfl : slots' = slots := by omega
    exact fun H locs cls hH hL hq => lv_goto hx hb hd ht (k H locs cls hH hL hq)
  | ifCond kc t =>
    obtain ⟨off, hd, rfl, ht⟩ := hF
    obtain ⟨x, r, rfl, rfl, rfl, rfl, rfl⟩ := am_if_inv hs
    obtain rfl : cells' = cells := by omega
    obtain rfl : slots' = slots := by omega
    intro H locs cls hH hL hq
    have kk := k H locs cls hH hL hq
    cases kc with
    | eq => exact lv_if_eq hx hb hd ht (fun q => by have e1 : am_c1 .eq x = true := decide_eq_true q; rw [if_pos e1] at kk; exact kk) (fun q => by have e1 : ¬ am_c1 .eq x = true := fun z => q (of_decide_eq_true z); rw [if_neg e1] at kk; exact kk)
    | ne => exact lv_if_ne hx hb hd ht (fun q => by have e1 : am_c1 .ne x = true := decide_eq_true q; rw [if_pos e1] at kk; exact kk) (fun q => by have e1 : ¬ am_c1 .ne x = true := fun z => (of_decide_eq_true z) q; rw [if_neg e1] at kk; exact kk)
    | lt => exact lv_if_lt hx hb hd ht (fun q => by have e1 : am_c1 .lt x = true := decide_eq_true q; rw [if_pos e1] at kk; exact kk) (fun q => by have e1 : ¬ am_c1 .lt x = true := fun z => q (of_decide_eq_true z); rw [if_neg e1] at kk; exact kk)
    | ge => exact lv_if_ge hx hb hd ht (fun q => by have e1 : am_c1 .ge x = true := decide_eq_true q; rw [if_pos e1] at kk; exact kk) (fun q => by have e1 : ¬ am_c1 .ge x = true := fun z => q (of_decide_eq_true z); rw [if_neg e1] at kk; exact kk)
    | gt => exact lv_if_gt hx hb hd ht (fun q => by have e1 : am_c1 .gt x = true := decide_eq_true q; rw [if_pos e1] at kk; exact kk) (fun q => by have e1 : ¬ am_c1 .gt x = true := fun z => q (of_decide_eq_true z); rw [if_neg e1] at kk; exact kk)
    | le => exact lv_if_le hx hb hd ht (fun q => by have e1 : am_c1 .le x = true := decide_eq_true q; rw [if_pos e1] at kk; exact kk) (fun q => by have e1 : ¬ am_c1 .le x = true := fun z => q (of_decide_eq_true z); rw [if_neg e1] at kk; exact kk)
  | if_icmp kc t =>
    obtain ⟨off, hd, rfl, ht⟩ := hF
    obtain ⟨x, y, r, rfl, rfl, rfl, rfl, rfl⟩ := am_ic_inv hs
    obtain rfl : cells' = cells := by omega
    obtain rfl : slots' = slots := by omega
    intro H locs cls hH hL hq
    have kk := k H locs cls hH hL hq
    cases kc with
    | eq => exact lv_icmp_eq hx hb hd ht (fun q => by have e1 : am_c2 .eq x y = true := decide_eq_true q; rw [if_pos e1] at kk; exact kk) (fun q => by have e1 : ¬ am_c2 .eq x y = true := fun z => q (of_decide_eq_true z); rw [if_neg e1] at kk; exact kk)
    | ne => exact lv_icmp_ne hx hb hd ht (fun q => by have e1 : am_c2 .ne x y = true := decide_eq_true q; rw [if_pos e1] at kk; exact kk) (fun q => by have e1 : ¬ am_c2 .ne x y = true := fun z => (of_decide_eq_true z) q; rw [if_neg e1] at kk; exact kk)
    | lt => exact lv_icmp_lt hx hb hd ht (fun q => by have e1 : am_c2 .lt x y = true := decide_eq_true q; rw [if_pos e1] at kk; exact kk) (fun q => by have e1 : ¬ am_c2 .lt x y = true := fun z => q (of_decide_eq_true z); rw [if_neg e1] at kk; exact kk)
    | ge => exact lv_icmp_ge hx hb hd ht (fun q => by have e1 : am_c2 .ge x y = true := decide_eq_true q; rw [if_pos e1] at kk; exact kk) (fun q => by have e1 : ¬ am_c2 .ge x y = true := fun z => q (of_decide_eq_true z); rw [if_neg e1] at kk; exact kk)
    | gt => exact lv_icmp_gt hx hb hd ht (fun q => by have e1 : am_c2 .gt x y = true := decide_eq_true q; rw [if_pos e1] at kk; exact kk) (fun q => by have e1 : ¬ am_c2 .gt x y = true := fun z => q (of_decide_eq_true z); rw [if_neg e1] at kk; exact kk)
    | le => exact lv_icmp_le hx hb hd ht (fun q => by have e1 : am_c2 .le x y = true := decide_eq_true q; rw [if_pos e1] at kk; exact kk) (fun q => by have e1 : ¬ am_c2 .le x y = true := fun z => q (of_decide_eq_true z); rw [if_neg e1] at kk; exact kk)
  | ifnull t =>
    obtain ⟨off, hd, rfl, ht⟩ := hF
    replace hs : (match (generalizing := false) am_br (.ifnull t) (pc + 3) st with | some (pc', st') => some (pc', ls, st', h) | none => none) = some (pc', ls', st', h') := hs
    unfold am_br at hs
    split at hs
    · rename_i q1 q2 hbr
      dsimp only at hbr
      split at hbr
      · cases hbr
        cases hs
        obtain rfl : cells' = cells := by omega
        obtain rfl : slots' = slots := by omega
        exact fun H locs cls hH hL hq => lv_ifnullN hx hb hd ht (k H locs cls hH hL hq)
      · cases hbr
        cases hs
        obtain rfl : cells' = cells := by omega
        obtain rfl : slots' = slots := by omega
        exact fun H locs cls hH hL hq => lv_ifnull hx hb hd (k H locs cls hH hL hq)
      · cases hbr
    · cases hs
  | ifnonnull t =>
    obtain ⟨off, hd, rfl, ht⟩ := hF
    replace hs : (match (generalizing := false) am_br (.ifnonnull t) (pc + 3) st with | some (pc', st') => some (pc', ls, st', h) | none => none) = some (pc', ls', st', h') := hs
    unfold am_br at hs
    split at hs
    · rename_i q1 q2 hbr
      dsimp only at hbr
      split at hbr
      · cases hbr
        cases hs
        obtain rfl : cells' = cells := by omega
        obtain rfl : slots' = slots := by omega
        exact fun H locs cls hH hL hq => lv_ifnonnullN hx hb hd (k H locs cls hH hL hq)
      · cases hbr
        cases hs
        obtain rfl : cells' = cells := by omega
        obtain rfl : slots' = slots := by omega
        exact fun H locs cls hH hL hq => lv_ifnonnull hx hb hd ht (k H locs cls hH hL hq)
      · cases hbr
    · cases hs
  | lookupswitch dd ps =>
    obtain ⟨x, r, rfl, rfl, rfl, rfl, rfl⟩ := am_sw_inv hs
    obtain rfl : cells' = cells := by omega
    obtain rfl : slots' = slots := by omega
    intro H locs cls hH hL hq
    have kk := k H locs cls hH hL hq
    rcases hF with ⟨d0, p0, hd, hsrt, hps, hdd, hd0, hnn⟩ | ⟨d0, lo, hi, offs, hd, hhi, hps, hdd, hd0, hnn⟩
    · have hz0 := sm_off0 (x := x.toInt) hd0 hnn
      refine lv_lookup hx hb hd hsrt rfl ?_ kk
      rw [hps, hdd] at hz0 ⊢
      rw [sm_off] at hz0 ⊢
      omega
    · have hz0 := sm_off0 (x := x.toInt) hd0 hnn
      obtain ⟨t1, t2⟩ := sm_offT pc x.toInt dd lo offs.toList 0
      by_cases hin : lo ≤ x.toInt ∧ x.toInt ≤ hi
      · have hlt : (x.toInt - lo).toNat < offs.size := by omega
        have ho : offs[(x.toInt - lo).toNat]? = some offs[(x.toInt - lo).toNat] := Array.getElem?_eq_getElem hlt
        refine lv_tableIn hx hb hd (by omega) (by omega) ho ?_ kk
        have := t2 _ (by simpa using hin.1) (by rw [show (x.toInt - lo - ((0 : Nat) : Int)).toNat = (x.toInt - lo).toNat by simp, Array.getElem?_toList]; exact ho)
        rw [hps] at hz0 ⊢
        unfold sm_tab at hz0 ⊢
        rw [this] at hz0 ⊢
        omega
      · refine lv_tableOut hx hb hd (by omega) ?_ kk
        have := t1 (by simp; omega)
        rw [hps] at hz0 ⊢
        unfold sm_tab at hz0 ⊢
        rw [this] at hz0 ⊢
        omega
  | _ => first | cases hs | simp [am_step, am_br] at hs
end SONE
end
section
/-! WHAT A RUN IS, IS WHAT THE MACHINE DOES -/
theorem am_step_mono {d len pc pc' : Nat} {i : Instr} {ls ls' : AL} {st st' : List Value} {h h' : AH} (hs : am_step d i len pc ls st h = some (pc', ls', st', h')) : h.length ≤ h'.length ∧ am_sz h ≤ am_sz h' := by
  unfold am_step at hs
  split at hs <;> first
    | (obtain ⟨-, -, -, rfl⟩ := am_nx_inv hs; exact ⟨Nat.le_refl _, Nat.le_refl _⟩)
    | skip
  all_goals first
    | (split at hs <;> first
        | (obtain ⟨-, -, -, rfl⟩ := am_nx_inv hs; exact ⟨Nat.le_refl _, Nat.le_refl _⟩)
        | (split at hs <;> first
            | (cases hs; exact ⟨Nat.le_refl _, Nat.le_refl _⟩)
            | (cases hs; exact ⟨by simp, by rw [am_sz_app]; omega⟩)
            | (obtain ⟨-, -, -, rfl⟩ := am_nx_inv hs; exact ⟨Nat.le_refl _, Nat.le_refl _⟩)
            | (obtain ⟨ho, -, -, -⟩ := am_as_inv hs; obtain ⟨ty, vs, hr, -, -, -, -, rfl⟩ := am_ast_inv ho; exact ⟨by simp, Nat.le_of_eq (am_sz_set hr (List.length_set ..)).symm⟩)
            | cases hs)
        | (obtain ⟨ho, -, -, -⟩ := am_as_inv hs; obtain ⟨ty, vs, hr, -, -, -, -, rfl⟩ := am_ast_inv ho; exact ⟨by simp, Nat.le_of_eq (am_sz_set hr (List.length_set ..)).symm⟩)
        | (cases hs; exact ⟨Nat.le_refl _, Nat.le_refl _⟩)
        | cases hs)
    | (obtain ⟨ho, -, -⟩ := am_nh_inv hs; first | (have q := am_putf_sz ho; omega) | (have q := am_copy_sz ho; omega))
    | (cases hs; exact ⟨by simp, by rw [am_sz_app]; omega⟩)
theorem am_run_mono : ∀ (n d mid pc : Nat) (ls : AL) (st : List Value) (h : AH) (r : Option Value) (h' : AH), am_run d n mid pc ls st h = some (r, h') → (h.length ≤ h'.length ∧ am_sz h ≤ am_sz h') ∧ am_rok (mR mid) r = true := by
  intro n
  induction n with
  | zero => intro d mid pc ls st h r h' hr; simp [am_run] at hr
  | succ n ih =>
    intro d mid pc ls st h r h' hr
    unfold am_run at hr
    split at hr
    · cases hr
    · rename_i i len hrc
      split at hr
      · rename_i r0 hret
        split at hr
        · rename_i hok
          cases hr
          exact ⟨⟨Nat.le_refl _, Nat.le_refl _⟩, hok⟩
        · cases hr
      · split at hr
        · rename_i cm as rest hcall
          split at hr
          · cases hr
          · rename_i d'
            split at hr
            · split at hr
              · rename_i r1 h1 hr1
                have q1 := (ih _ _ _ _ _ _ _ _ hr1).1
                have q2 := ih _ _ _ _ _ _ _ _ hr
                exact ⟨⟨by omega, by omega⟩, q2.2⟩
              · cases hr
            · cases hr
        · split at hr
          · rename_i pc' ls' st' h1 hs
            have q1 := am_step_mono hs
            have q2 := ih _ _ _ _ _ _ _ _ hr
            exact ⟨⟨by omega, by omega⟩, q2.2⟩
          · cases hr
def sm_ri (r : Option Value) : Instr := match r with
  | none => .return_
  | some (.int _) => .ireturn
  | some (.long _) => .lreturn
  | some _ => .areturn
def sm_Sim (l : Launch) (s0 : State) (a0 : Array Value) (φ : (Nat → Nat) × Option Nat) (dC : Nat → ClassId) (dI : Nat → Nat → Nat) (B d mid pc : Nat) (ls : AL) (st : List Value) (h : AH) (r : Option Value) (h' : AH) : Prop :=
  ∀ (p : Program) (e : Env) (R : Room) (s : State) (m : MethodId) (args : Array Value) (below : List Frame) (meth : Method) (c : Code) (Q : State → Prop) (cells slots cf sf : Nat), sm_X p R s m meth c s0 a0 φ dC dI B mid d → cf + h.length = cells + h'.length → sf + am_sz h = slots + am_sz h' → cf ≤ R.cells → sf ≤ R.slots →
    (∀ (H' : Heap) (locs' : List Loc) (cls' : Array Slot) (pc' : Nat), sm_H s0 φ dC dI B H' h' → (∀ q ∈ locs', B ≤ q.base) → decode (mB mid) pc' = .ok (sm_ri r, 1) → W p l e R s m args below meth c H' locs' cf sf Q (F0 m pc' cls' (sm_s φ r.toList))) →
    sm_G p l e R s m args below meth c Q s0 φ dC dI B (mL mid) cells slots pc ls st h
def sm_Pc (s0 : State) (φ : (Nat → Nat) × Option Nat) (dC : Nat → ClassId) (dI : Nat → Nat → Nat) (B : Nat) (vs : List Value) (h : AH) : Array Value → State → Prop := fun a U => a = (sm_s φ vs).toArray ∧ s0.WarmedH U.vm ∧ sm_H s0 φ dC dI B U.heap h
def sm_Qc (s0 : State) (φ : (Nat → Nat) × Option Nat) (dC : Nat → ClassId) (dI : Nat → Nat → Nat) (B : Nat) (r : Option Value) (h : AH) : Array Value → State → Outcome → State → Prop := fun _ _ o t => o = .returned (r.map (sm_v φ)) ∧ s0.WarmedH t.vm ∧ sm_H s0 φ dC dI B t.heap h
/-- what stands of the start alone -/
def sm_X0 (s0 : State) (a0 : Array Value) (φ : (Nat → Nat) × Option Nat) (dC : Nat → ClassId) (dI : Nat → Nat → Nat) (B : Nat) : Prop := (∀ w ∈ lw_tbl, w.before a0 s0 = true) ∧ sm_K s0 dC dI ∧ sm_φ φ B ∧ (∀ q ∈ sKl, ∃ tx, vk_R q.1.1 q.1.2 tx (φ.1 q.2) s0)
theorem sm_met {l : Launch} {s0 : State} {a0 : Array Value} {φ : (Nat → Nat) × Option Nat} {dC : Nat → ClassId} {dI : Nat → Nat → Nat} {B d cm : Nat} {vs : List Value} {h h1 : AH} {r : Option Value} (X0 : sm_X0 s0 a0 φ dC dI B) (hM : sm_M cm) (hen : (am_en vs).length ≤ mL cm) (hm : h.length ≤ h1.length ∧ am_sz h ≤ am_sz h1) (hok : am_rok (mR cm) r = true)
    (sim : sm_Sim l s0 a0 φ dC dI B d cm 0 (am_entry (mL cm) vs) [] h r h1) :
    Met l (mN cm) [.code (mN cm) (mB cm) (mL cm) (mR cm)] { frames := d, cells := h1.length - h.length, slots := am_sz h1 - am_sz h, locals := d * kL } (sm_Pc s0 φ dC dI B vs h) (sm_Qc s0 φ dC dI B r h1) (h1.length - h.length) (am_sz h1 - am_sz h) (fun q => B ≤ q) := by
  refine Met.ofW (cc := mB cm) (maxL := mL cm) (ret := mR cm) hM.2.1 rfl ?_
  intro p e s m args below meth c s₁ Bd hml hv
  obtain ⟨rfl, hW, hH⟩ := hv
  have hx := Bd.exec
  have hb := Bd.bytes
  have hr := Bd.returns
  have hown : s.vm.findClass (mN cm).cls = some m.cls := findClass_of_methodNamed Bd.named
  have hlocks := Bd.notSynchronized
  have hnm := (name_of_methodNamed Bd.named Bd.method).1
  rw [lg_entry_eq]
  refine sim p e _ s m _ below meth c _ 0 0 (h1.length - h.length) (am_sz h1 - am_sz h) ⟨hx, hb, hml, hown, hW, X0.1, X0.2.1, X0.2.2.1, X0.2.2.2, Nat.le_refl _, Nat.le_refl _, fun q => hnm.trans q⟩ (by omega) (by omega) (Nat.le_refl _) (Nat.le_refl _) ?_ s.heap [] _ hH (sm_entry φ vs hen) (fun q hq => by cases hq)
  intro H' locs' cls' pc' hH' hq' hd'
  have hQ : ∀ t : State, t.heap = H' → s.WarmedH t.vm → sm_Qc s0 φ dC dI B r h1 ((sm_s φ vs).toArray) s (.returned (r.map (sm_v φ))) t := fun t ht hWt => ⟨rfl, State.WarmedH.trans hW hWt, by rw [ht]; exact hH'⟩
  cases r with
  | none =>
    have hmr : mR cm = none := by
      cases hq : mR cm with
      | none => rfl
      | some ty => rw [hq] at hok; cases hok
    exact W.vret hx hb (hr.trans hmr) hQ hq' hd' hlocks
  | some v =>
    obtain ⟨ty, hmr⟩ : ∃ ty, mR cm = some ty := by
      cases hq : mR cm with
      | none => rw [hq] at hok; cases hok
      | some ty => exact ⟨ty, rfl⟩
    rw [hmr] at hok
    have hok : (am_rv v && (decide (narrow ty v = v) && fits ty v)) = true := hok
    rw [Bool.and_eq_true, Bool.and_eq_true] at hok
    have hn := of_decide_eq_true hok.2.1
    have hf := hok.2.2
    have hrv := hok.1
    cases v with
    | int x => exact W.zret hx hb (hr.trans hmr) hn hQ hq' hd' hlocks
    | long x =>
      have hty : ty = .long := by cases ty <;> first | rfl | cases hf
      subst hty
      exact W.lret hx hb (hr.trans hmr) hQ hq' hd' hlocks
    | ref x =>
      refine W.aret (v := .ref (φ.1 x)) hx hb (hr.trans hmr) ?_ (Or.inr ⟨_, rfl⟩) hQ hq' hd' hlocks
      cases ty <;> first | exact Or.inl ⟨_, rfl⟩ | exact Or.inr ⟨_, rfl⟩ | cases hf
    | null =>
      refine W.aret (v := .null) hx hb (hr.trans hmr) ?_ (Or.inl rfl) hQ hq' hd' hlocks
      cases ty <;> first | exact Or.inl ⟨_, rfl⟩ | exact Or.inr ⟨_, rfl⟩ | cases hf
    | float x => cases hrv
    | double x => cases hrv
    | retAddr x => cases hrv
theorem sm_blind {s0 : State} {φ : (Nat → Nat) × Option Nat} {dC : Nat → ClassId} {dI : Nat → Nat → Nat} {B : Nat} {vs : List Value} {h : AH} : FrameBlind (sm_Pc s0 φ dC dI B vs h) := fun _ _ _ _ q => ⟨q.1, q.2.1, q.2.2⟩
theorem am_ret_inv {i : Instr} {st : List Value} {r : Option Value} (h : am_ret i st = some r) : i = sm_ri r ∧ st = r.toList := by
  unfold am_ret at h
  split at h <;> (try split at h) <;> first | (cases h; exact ⟨rfl, rfl⟩) | cases h
theorem sm_F_ret {mid pc len : Nat} {r : Option Value} (h : sm_F mid pc (sm_ri r) len) : decode (mB mid) pc = .ok (sm_ri r, 1) := by
  match r, h with
  | none, h => exact h.1
  | some (.int _), h => exact h.1
  | some (.long _), h => exact h.1
  | some (.ref _), h => exact h.1
  | some .null, h => exact h.1
  | some (.float _), h => exact h.1
  | some (.double _), h => exact h.1
  | some (.retAddr _), h => exact h.1
/-- a call, with what came back -/
theorem sm_back {p : Program} {l : Launch} {e : Env} {R : Room} {s : State} {m : MethodId} {args : Array Value} {below : List Frame} {meth : Method} {c : Code} {Q : State → Prop} {s0 : State} {φ : (Nat → Nat) × Option Nat} {dC : Nat → ClassId} {dI : Nat → Nat → Nat} {B nL cells slots pc mc ms : Nat} {ls : AL} {st rest : List Value} {h1 : AH} {r : Option Value} {a : Array Value} {H : Heap} {locs : List Loc} {cls : Array Slot}
    (hr : va_Run p l e R s m args below meth c H locs cells slots mc ms (F0 m pc cls (sm_s φ st)) (sm_s φ rest) (sm_Qc s0 φ dC dI B r h1 a) (fun q => B ≤ q)) (hL : sm_L φ nL cls ls) (hq : ∀ q ∈ locs, B ≤ q.base)
    (k : sm_G p l e R s m args below meth c Q s0 φ dC dI B nL (cells + mc) (slots + ms) (pc + 3) ls (r.toList ++ rest) h1) : W p l e R s m args below meth c H locs cells slots Q (F0 m pc cls (sm_s φ st)) := by
  intro T hT X
  obtain ⟨v, st₀, t, T', L, -, X', hLq, e1, -, ⟨hv, -, hHt⟩, go⟩ := hr T hT X
  obtain ⟨t2, a1, b1⟩ := k T'.heap (locs ++ L) cls (by rw [e1]; exact hHt) hL (fun q h => by
    rcases List.mem_append.mp h with h | h
    · exact hq q h
    · exact hLq q h) T' rfl X'
  have hv2 : v = r.map (sm_v φ) := by injection hv
  subst hv2
  refine ⟨t2, go t2 ?_, b1⟩
  have e2 : sm_s φ (r.toList ++ rest) = (r.map (sm_v φ)).toList ++ sm_s φ rest := by cases r <;> rfl
  rw [e2] at a1
  exact a1

theorem sm_take {n : Nat} {st : List Value} (h : (st.take n).reverse.length = n) : st = (st.take n).reverse.reverse ++ st.drop n := by
  rw [List.reverse_reverse, List.take_append_drop]
theorem sm_take1 {n b : Nat} {st vs : List Value} (h : (st.take (n + 1)).reverse = .ref b :: vs) : st = vs.reverse ++ .ref b :: st.drop (n + 1) := by
  have e : st.take (n + 1) = vs.reverse ++ [.ref b] := by
    rw [← List.reverse_reverse (st.take (n + 1)), h, List.reverse_cons]
  calc st = st.take (n + 1) ++ st.drop (n + 1) := (List.take_append_drop ..).symm
    _ = _ := by rw [e, List.append_assoc]; rfl
theorem sm_s_app (φ : (Nat → Nat) × Option Nat) (a b : List Value) : sm_s φ (a ++ b) = sm_s φ a ++ sm_s φ b := List.map_append
theorem sm_s_rev (φ : (Nat → Nat) × Option Nat) (a : List Value) : sm_s φ a.reverse = (sm_s φ a).reverse := List.map_reverse
set_option maxHeartbeats 4000000 in
theorem sm_sim {l : Launch} {s0 : State} {a0 : Array Value} {φ : (Nat → Nat) × Option Nat} {dC : Nat → ClassId} {dI : Nat → Nat → Nat} {B : Nat} (X0 : sm_X0 s0 a0 φ dC dI B) (hFs : ∀ mid pc i len, rc mid pc = some (i, len) → sm_F mid pc i len) :
    ∀ (n d mid pc : Nat) (ls : AL) (st : List Value) (h : AH) (r : Option Value) (h' : AH), am_run d n mid pc ls st h = some (r, h') → sm_Sim l s0 a0 φ dC dI B d mid pc ls st h r h' := by
  intro n
  induction n with
  | zero => intro d mid pc ls st h r h' hr; simp [am_run] at hr
  | succ n ih =>
    intro d mid pc ls st h r h' hr
    unfold am_run at hr
    split at hr
    · cases hr
    · rename_i i len hrc
      have hF := hFs _ _ _ _ hrc
      split at hr
      · rename_i r0 hret
        split at hr
        · cases hr
          obtain ⟨rfl, rfl⟩ := am_ret_inv hret
          intro p e R s m args below meth c Q cells slots cf sf X hc hz hcR hsR hfin H locs cls hH hL hq
          obtain rfl : cf = cells := by omega
          obtain rfl : sf = slots := by omega
          exact hfin H locs cls pc hH hq (sm_F_ret hF)
        · cases hr
      · split at hr
        · rename_i cm vs rest hcall
          split at hr
          · cases hr
          · rename_i d'
            split at hr
            · rename_i hok
              split at hr
              · rename_i r1 h1 hr1
                have q1 := am_run_mono _ _ _ _ _ _ _ _ _ hr1
                have q2 := am_run_mono _ _ _ _ _ _ _ _ _ hr
                have s1 := ih _ _ _ _ _ _ _ _ hr1
                have s2 := ih _ _ _ _ _ _ _ _ hr
                intro p e R s m args below meth c Q cells slots cf sf X hc hz hcR hsR hfin H locs cls hH hL hq
                obtain ⟨hx, hb, hml, hown, hW, hT, hK, hφ, hSt, hRf, hRl, hini⟩ := id X
                have hal := hW.alike
                have k := s2 p e R s m args below meth c Q (cells + (h1.length - h.length)) (slots + (am_sz h1 - am_sz h)) cf sf X (by omega) (by omega) hcR hsR hfin
                have room : ∀ mm, sm_M mm → mm = cm → d' + 1 ≤ R.frames ∧ 8 + (mL cm + 11) + d' * kL ≤ R.locals := by
                  intro mm hM e1
                  subst e1
                  have := hM.2.2.2.2.2
                  refine ⟨hRf, ?_⟩
                  rw [Nat.succ_mul] at hRl
                  omega
                have pay : sm_M cm → ∀ w ∈ [Cond.code (mN cm) (mB cm) (mL cm) (mR cm)], ∀ (a' : Array Value) (U : State), s.WarmedH U.vm → w.before a' U = true := by
                  intro hM w hw a' U hWU
                  rw [List.mem_singleton.mp hw]
                  exact sm_at (State.WarmedH.trans hW hWU) hM.1.2 (hT _ hM.1.1)
                have sig : sm_M cm → ∀ sg, parseMethodDescriptor (mN cm).desc = some sg → mA cm = sg.parameters.length := by
                  intro hM sg hsg
                  have h2 := hM.2.2.2.1
                  rw [hsg] at h2
                  exact (Option.some.inj h2).symm
                have pre : ∀ U : State, U.heap = H → s.WarmedH U.vm → sm_Pc s0 φ dC dI B vs h (sm_s φ vs).toArray U := fun U hU hWU => ⟨rfl, State.WarmedH.trans hW hWU, by rw [hU]; exact hH⟩
                cases i with
                | invokestatic cm' =>
                  have hcall : some (cm', (st.take (mA cm')).reverse, st.drop (mA cm')) = some (cm, vs, rest) := hcall
                  cases hcall
                  have hok := of_decide_eq_true (show decide _ = true from hok)
                  obtain ⟨rfl, hM, w1, x, hd, hl⟩ := hF
                  have met := sm_met X0 hM hok.2.1 q1.1 q1.2 s1
                  obtain ⟨rm1, rm2⟩ := room cm hM rfl
                  have hst := sm_take hok.1
                  have stk : sm_s φ st = (sm_s φ (st.take (mA cm)).reverse).reverse ++ sm_s φ (st.drop (mA cm)) := by
                    rw [← sm_s_rev, ← sm_s_app, ← hst]
                  have hcat : ((sm_s φ (st.drop (mA cm))).map fun v => v.category).sum ≤ 8 := by rw [sm_cats]; exact hok.2.2
                  have hlen : (sm_s φ (st.take (mA cm)).reverse).length = mA cm := by unfold sm_s; rw [List.length_map]; exact hok.1
                  rcases hl with hl | ⟨host, hl⟩
                  · exact sm_back (va_runS (Ts := []) (bytes := mB cm) (maxL := mL cm) (ret := mR cm) ⟨hx, hb, hml, hown, fun w h => by cases h⟩ met ⟨⟨rfl, rfl, rm1, rm2, pay hM, List.mem_cons_self, X.w hM.1, X.w hM.2.2.2.2.1, hM.2.2.1, sig hM, X.w hl⟩, X.w w1⟩ ⟨sm_blind, pre⟩ rfl hlen hL.2.1 stk (lv_room hcat) hd ⟨by omega, by omega⟩) hL hq k
                  · exact sm_back (va_runSN (Ts := []) (bytes := mB cm) (maxL := mL cm) (ret := mR cm) (host := host) ⟨hx, hb, hml, hown, fun w h => by cases h⟩ met ⟨⟨⟨rfl, rfl, rm1, rm2, pay hM, List.mem_cons_self⟩, X.w hM.1, X.w hM.2.2.2.2.1, hM.2.2.1, sig hM, X.w hl⟩, X.w w1, trivial⟩ ⟨sm_blind, pre⟩ rfl hlen hL.2.1 stk (lv_room hcat) hd ⟨by omega, by omega⟩) hL hq k
                | invokespecial cm' =>
                  have hcall : some (cm', (st.take (mA cm' + 1)).reverse, st.drop (mA cm' + 1)) = some (cm, vs, rest) := hcall
                  obtain ⟨rfl, e1, rfl⟩ : cm' = cm ∧ (st.take (mA cm' + 1)).reverse = vs ∧ st.drop (mA cm' + 1) = rest := by cases hcall; exact ⟨rfl, rfl, rfl⟩
                  obtain ⟨b, us, rfl, hok⟩ : ∃ b us, vs = .ref b :: us ∧ (vs.length = mA cm' + 1 ∧ (am_en vs).length ≤ mL cm' ∧ am_cat (st.drop (mA cm' + 1)) ≤ 8) := by
                    match vs, hok with
                    | .ref b :: us, hok => exact ⟨b, us, rfl, of_decide_eq_true (show decide _ = true from hok)⟩
                    | [], hok => cases hok
                    | .int _ :: _, hok => cases hok
                    | .long _ :: _, hok => cases hok
                    | .float _ :: _, hok => cases hok
                    | .double _ :: _, hok => cases hok
                    | .null :: _, hok => cases hok
                    | .retAddr _ :: _, hok => cases hok
                  obtain ⟨rfl, hM, w1, hnm, hret0, x, hd, hl⟩ := hF
                  have met := sm_met X0 hM hok.2.1 q1.1 q1.2 s1
                  obtain ⟨rm1, rm2⟩ := room cm' hM rfl
                  have hst := sm_take1 e1
                  have stk : sm_s φ st = (sm_s φ us).reverse ++ .ref (φ.1 b) :: sm_s φ (st.drop (mA cm' + 1)) := by
                    conv => lhs; rw [hst]
                    rw [sm_s_app, sm_s_rev]
                    rfl
                  have hcat : ((sm_s φ (st.drop (mA cm' + 1))).map fun v => v.category).sum ≤ 8 := by rw [sm_cats]; exact hok.2.2
                  have hlen : (sm_s φ us).length = mA cm' := by
                    have h3 := hok.1
                    unfold sm_s
                    rw [List.length_map]
                    simpa using h3
                  have w0 := hM.1
                  rw [hret0] at w0 met pay
                  rcases hl with hl | ⟨host, hl⟩
                  · exact sm_back (va_runI (Ts := []) (b := φ.1 b) (bytes := mB cm') (maxL := mL cm') ⟨hx, hb, hml, hown, fun w h => by cases h⟩ met ⟨⟨rfl, rfl, rm1, rm2, pay hM, List.mem_cons_self, X.w w0, X.w hM.2.2.2.2.1, hM.2.2.1, sig hM, X.w hl⟩, hnm, X.w w1⟩ ⟨sm_blind, pre⟩ rfl hlen hL.2.1 stk (lv_room hcat) hd ⟨by omega, by omega⟩) hL hq k
                  · exact sm_back (va_runIN (Ts := []) (b := φ.1 b) (bytes := mB cm') (maxL := mL cm') (host := host) ⟨hx, hb, hml, hown, fun w h => by cases h⟩ met ⟨⟨⟨rfl, rfl, rm1, rm2, pay hM, List.mem_cons_self⟩, X.w w0, X.w hM.2.2.2.2.1, hM.2.2.1, sig hM, X.w hl⟩, hnm, X.w w1⟩ ⟨sm_blind, pre⟩ rfl hlen hL.2.1 stk (lv_room hcat) hd ⟨by omega, by omega⟩) hL hq k
                | invokevirtual cm' =>
                  have hcall : some (cm', (st.take (mA cm' + 1)).reverse, st.drop (mA cm' + 1)) = some (cm, vs, rest) := hcall
                  obtain ⟨rfl, e1, rfl⟩ : cm' = cm ∧ (st.take (mA cm' + 1)).reverse = vs ∧ st.drop (mA cm' + 1) = rest := by cases hcall; exact ⟨rfl, rfl, rfl⟩
                  obtain ⟨b, us, fs, rfl, hbr, hok⟩ : ∃ b us fs, vs = .ref b :: us ∧ h[b]? = some (.inr (mC cm'), fs) ∧ (vs.length = mA cm' + 1 ∧ (am_en vs).length ≤ mL cm' ∧ am_cat (st.drop (mA cm' + 1)) ≤ 8) := by
                    match vs, hok with
                    | .ref b :: us, hok =>
                      have hok : (match h[b]? with | some (.inr ci, _) => decide (ci = mC cm' ∧ (Value.ref b :: us).length = mA cm' + 1 ∧ (am_en (.ref b :: us)).length ≤ mL cm' ∧ am_cat (st.drop (mA cm' + 1)) ≤ 8) | _ => false) = true := hok
                      split at hok
                      · rename_i ci fs hbr
                        obtain ⟨rfl, hk2⟩ := of_decide_eq_true hok
                        exact ⟨b, us, fs, rfl, hbr, hk2⟩
                      · cases hok
                    | [], hok => cases hok
                    | .int _ :: _, hok => cases hok
                    | .long _ :: _, hok => cases hok
                    | .float _ :: _, hok => cases hok
                    | .double _ :: _, hok => cases hok
                    | .null :: _, hok => cases hok
                    | .retAddr _ :: _, hok => cases hok
                  obtain ⟨rfl, hM, w1, w2, hcn, hca, x, hd, hl⟩ := hF
                  have met := sm_met X0 hM hok.2.1 q1.1 q1.2 s1
                  obtain ⟨rm1, rm2⟩ := room cm' hM rfl
                  have hst := sm_take1 e1
                  have stk : sm_s φ st = (sm_s φ us).reverse ++ .ref (φ.1 b) :: sm_s φ (st.drop (mA cm' + 1)) := by
                    conv => lhs; rw [hst]
                    rw [sm_s_app, sm_s_rev]
                    rfl
                  have hcat : ((sm_s φ (st.drop (mA cm' + 1))).map fun v => v.category).sum ≤ 8 := by rw [sm_cats]; exact hok.2.2
                  have hlen : (sm_s φ us).length = mA cm' := by
                    have h3 := hok.1
                    unfold sm_s
                    rw [List.length_map]
                    simpa using h3
                  have recv : ∃ cellB : Cell, H[φ.1 b]? = some cellB ∧ cellB.vm.isStatics = false ∧ s.vm.findClass (mN cm').cls = some cellB.cls := by
                    obtain ⟨cell, g1, g2, g3, g4, g0, g5, -⟩ := hH.2.2.1 b _ hbr
                    refine ⟨cell, g1, ?_, ?_⟩
                    · cases hv : cell.vm with
                      | statics k => exact absurd hv (g3 k)
                      | _ => rfl
                    · rw [← hcn, hal.findClass, g5]
                      exact hK.2.2 _ hca
                  rcases hl with hl | ⟨host, hl⟩
                  · exact sm_back (va_runV (Ts := []) (b := φ.1 b) (C := (mN cm').cls) (bytes := mB cm') (maxL := mL cm') (ret := mR cm') ⟨hx, hb, hml, hown, fun w h => by cases h⟩ met ⟨⟨rfl, rfl, rm1, rm2, pay hM, List.mem_cons_self, X.w hM.1, X.w hM.2.2.2.2.1, hM.2.2.1, sig hM, X.w hl⟩, X.w w1, X.w w2⟩ ⟨sm_blind, recv, pre⟩ rfl hlen hL.2.1 stk (lv_room hcat) hd ⟨by omega, by omega⟩) hL hq k
                  · exact sm_back (va_runVN (Ts := []) (b := φ.1 b) (C := (mN cm').cls) (bytes := mB cm') (maxL := mL cm') (ret := mR cm') (host := host) ⟨hx, hb, hml, hown, fun w h => by cases h⟩ met ⟨⟨⟨rfl, rfl, rm1, rm2, pay hM, List.mem_cons_self⟩, X.w hM.1, X.w hM.2.2.2.2.1, hM.2.2.1, sig hM, X.w hl⟩, X.w w1, X.w w2⟩ ⟨sm_blind, recv, pre⟩ rfl hlen hL.2.1 stk (lv_room hcat) hd ⟨by omega, by omega⟩) hL hq k
                | _ => cases hcall
              · cases hr
            · cases hr
        · rename_i hcall
          split at hr
          · rename_i pc' ls' st' h1 hs
            have q1 := am_step_mono hs
            have q2 := am_run_mono _ _ _ _ _ _ _ _ _ hr
            have s2 := ih _ _ _ _ _ _ _ _ hr
            intro p e R s m args below meth c Q cells slots cf sf X hc hz hcR hsR hfin
            exact sm_one (cells' := cells + (h1.length - h.length)) (slots' := slots + (am_sz h1 - am_sz h)) X rfl hF hs (by omega) (by omega) (by omega) (by omega) (s2 p e R s m args below meth c Q _ _ cf sf X (by omega) (by omega) hcR hsR hfin)
          · cases hr
end
section
/-! RAW AND RESOLVED -/
theorem sm_all {b : ByteArray} {l : List (Nat × Nat × Instr × Instr)} (h : (l.all fun q => decide (decode b q.1 = .ok (q.2.2.1, q.2.1))) = true) : ∀ q ∈ l, decode b q.1 = .ok (q.2.2.1, q.2.1) := fun q hq => of_decide_eq_true (List.all_eq_true.mp h q hq)
def sm_si (i : Instr) : Bool := match i with
  | .aconst_null => true
  | .iadd => true
  | .isub => true
  | .imul => true
  | .iand => true
  | .ior => true
  | .ixor => true
  | .ishl => true
  | .ishr => true
  | .iushr => true
  | .idiv => true
  | .irem => true
  | .ineg => true
  | .ladd => true
  | .lsub => true
  | .lmul => true
  | .land => true
  | .lor => true
  | .lxor => true
  | .lcmp => true
  | .ldiv => true
  | .lrem => true
  | .lneg => true
  | .lshl => true
  | .lshr => true
  | .lushr => true
  | .i2l => true
  | .l2i => true
  | .i2b => true
  | .i2s => true
  | .i2c => true
  | .i2f => true
  | .f2l => true
  | .dup => true
  | .pop => true
  | .dup_x1 => true
  | .dup_x2 => true
  | .dup2 => true
  | .iaload => true
  | .baload => true
  | .caload => true
  | .laload => true
  | .aaload => true
  | .arraylength => true
  | .iastore => true
  | .bastore => true
  | .castore => true
  | .lastore => true
  | .aastore => true
  | .ireturn => true
  | .lreturn => true
  | .areturn => true
  | .return_ => true
  | _ => false
def sm_rs (pc len : Nat) (raw : Instr) : Option Instr := match raw with
  | .iconst n => if len = 1 then some (.iconst n) else none
  | .bipush n => if len = 2 ∧ (Int8.ofInt n).toInt32 = Int32.ofInt n then some (.iconst n) else none
  | .sipush n => if len = 3 ∧ (Int16.ofInt n).toInt32 = Int32.ofInt n then some (.iconst n) else none
  | .lconst k => if len = 1 then some (.ldc2_w k) else none
  | .iload j => if len = 2 then some (.iload j) else none
  | .lload j => if len = 2 then some (.lload j) else none
  | .aload j => if len = 2 then some (.aload j) else none
  | .istore j => if len = 2 then some (.istore j) else none
  | .lstore j => if len = 2 then some (.lstore j) else none
  | .astore j => if len = 2 then some (.astore j) else none
  | .iload_n j => if len = 1 then some (.iload j) else none
  | .lload_n j => if len = 1 then some (.lload j) else none
  | .aload_n j => if len = 1 then some (.aload j) else none
  | .istore_n j => if len = 1 then some (.istore j) else none
  | .lstore_n j => if len = 1 then some (.lstore j) else none
  | .astore_n j => if len = 1 then some (.astore j) else none
  | .iinc j n => if len = 3 then some (.iinc j n) else none
  | .goto o => if len = 3 ∧ 0 ≤ (pc : Int) + o then some (.goto ((pc : Int) + o)) else none
  | .ifCond c o => if len = 3 ∧ 0 ≤ (pc : Int) + o then some (.ifCond c ((pc : Int) + o)) else none
  | .if_icmp c o => if len = 3 ∧ 0 ≤ (pc : Int) + o then some (.if_icmp c ((pc : Int) + o)) else none
  | .ifnull o => if len = 3 ∧ 0 ≤ (pc : Int) + o then some (.ifnull ((pc : Int) + o)) else none
  | .ifnonnull o => if len = 3 ∧ 0 ≤ (pc : Int) + o then some (.ifnonnull ((pc : Int) + o)) else none
  | .lookupswitch d p0 => if (p0.toList.zip (p0.toList.drop 1)).all (fun (a, next) => a.1 < next.1) = true ∧ 0 ≤ (pc : Int) + d ∧ ∀ q ∈ p0.toList.map (fun q => (q.1, (pc : Int) + q.2)), 0 ≤ q.2 then some (.lookupswitch ((pc : Int) + d) (p0.toList.map fun q => (q.1, (pc : Int) + q.2)).toArray) else none
  | .tableswitch d lo hi offs => if hi = lo + (offs.size : Int) - 1 ∧ 0 ≤ (pc : Int) + d ∧ ∀ q ∈ sm_tab pc lo offs.toList, 0 ≤ q.2 then some (.lookupswitch ((pc : Int) + d) (sm_tab pc lo offs.toList).toArray) else none
  | i => if sm_si i = true ∧ len = 1 then some i else none
theorem sm_rs_ok {mid pc len : Nat} {raw i : Instr} (h : sm_rs pc len raw = some i) (hd : decode (mB mid) pc = .ok (raw, len)) : sm_F mid pc i len := by
  unfold sm_rs at h
  split at h
  · split at h
    · rename_i hc; cases h; subst hc; exact Or.inl ⟨hd, rfl⟩
    · cases h
  · split at h
    · rename_i hc; cases h; obtain ⟨rfl, hc⟩ := hc; exact Or.inr (Or.inl ⟨hd, rfl, hc⟩)
    · cases h
  · split at h
    · rename_i hc; cases h; obtain ⟨rfl, hc⟩ := hc; exact Or.inr (Or.inr (Or.inl ⟨hd, rfl, hc⟩))
    · cases h
  · split at h
    · rename_i hc; cases h; subst hc; exact Or.inl ⟨_, hd, rfl, rfl⟩
    · cases h
  iterate 6
    (split at h
     · rename_i hc; cases h; subst hc; exact Or.inl ⟨hd, rfl⟩
     · cases h)
  iterate 6
    (split at h
     · rename_i hc; cases h; subst hc; exact Or.inr ⟨_, hd, rfl, rfl⟩
     · cases h)
  · split at h
    · rename_i hc; cases h; subst hc; exact ⟨hd, rfl⟩
    · cases h
  iterate 5
    (split at h
     · rename_i hc; cases h; obtain ⟨rfl, hc⟩ := hc; exact ⟨_, hd, rfl, (Int.toNat_of_nonneg hc).symm⟩
     · cases h)
  · split at h
    · rename_i hc; cases h; obtain ⟨h1, h2, h3⟩ := hc; exact Or.inl ⟨_, _, hd, h1, by simp, rfl, h2, by simpa using h3⟩
    · cases h
  · split at h
    · rename_i hc; cases h; obtain ⟨h1, h2, h3⟩ := hc; exact Or.inr ⟨_, _, _, _, hd, h1, by simp, rfl, h2, by simpa using h3⟩
    · cases h
  · split at h
    · rename_i hc
      cases h
      obtain ⟨h1, rfl⟩ := hc
      cases raw <;> first | exact ⟨hd, rfl⟩ | exact absurd h1 (by decide)
    · cases h
theorem sm_rsl {mid : Nat} {l : List (Nat × Nat × Instr × Instr)} (hr : ∀ q ∈ l, decode (mB mid) q.1 = .ok (q.2.2.1, q.2.1)) (h : (l.all fun q => decide (sm_rs q.1 q.2.1 q.2.2.1 = some q.2.2.2)) = true) : ∀ q ∈ l, sm_F mid q.1 q.2.2.2 q.2.1 := fun q hq => sm_rs_ok (of_decide_eq_true (List.all_eq_true.mp h q hq)) (hr q hq)
theorem rcl_mem {c : List (Nat × Nat × Instr × Instr)} {pc len : Nat} {i : Instr} (h : rcl c pc = some (i, len)) : ∃ raw, (pc, len, raw, i) ∈ c := by
  induction c with
  | nil => cases h
  | cons a r ih =>
    obtain ⟨p, n, raw, j⟩ := a
    unfold rcl at h
    cases hb : Nat.beq p pc with
    | true =>
      rw [hb] at h
      cases h
      have := Nat.eq_of_beq_eq_true hb
      subst this
      exact ⟨raw, List.mem_cons_self⟩
    | false =>
      rw [hb] at h
      obtain ⟨raw', hm⟩ := ih h
      exact ⟨raw', List.mem_cons_of_mem _ hm⟩
end
section
/-! FACTS OF THE INSTRUCTIONS, by program -/
theorem r_0 : ∀ q ∈ cd_0, decode (mB 0) q.1 = .ok (q.2.2.1, q.2.1) := sm_all (by decide +kernel)
theorem fs_0 : ∀ q ∈ sp_0, sm_F 0 q.1 q.2.2.2 q.2.1 := sm_rsl (fun q h => r_0 q (List.mem_append_left _ h)) (by decide +kernel)
theorem fl_0 : ∀ q ∈ lk_0, sm_F 0 q.1 q.2.2.2 q.2.1 := List.forall_mem_cons.mpr ⟨(⟨by decide, rfl, 7, (r_0 _ (List.mem_of_getElem? (i := 156) rfl)), tw_t17, tw_t18, tw_t1⟩ : sm_F 0 0 (.new 0) 3),
  List.forall_mem_cons.mpr ⟨(⟨rfl, mf_92, tw_t720, 9, (r_0 _ (List.mem_of_getElem? (i := 157) rfl)), Or.inl tw_t719⟩ : sm_F 0 6 (.invokestatic 92) 3),
  List.forall_mem_cons.mpr ⟨(⟨rfl, mf_1, tw_t20, rfl, rfl, 15, (r_0 _ (List.mem_of_getElem? (i := 158) rfl)), Or.inl tw_t19⟩ : sm_F 0 9 (.invokespecial 1) 3),
  List.forall_mem_cons.mpr ⟨(⟨by decide, rfl, 18, (r_0 _ (List.mem_of_getElem? (i := 159) rfl)), tw_t722, tw_t723, tw_t10⟩ : sm_F 0 13 (.new 8) 3),
  List.forall_mem_cons.mpr ⟨(⟨rfl, mf_92, tw_t720, 9, (r_0 _ (List.mem_of_getElem? (i := 160) rfl)), Or.inl tw_t719⟩ : sm_F 0 19 (.invokestatic 92) 3),
  List.forall_mem_cons.mpr ⟨(⟨rfl, mf_93, tw_t725, rfl, rfl, 20, (r_0 _ (List.mem_of_getElem? (i := 161) rfl)), Or.inl tw_t724⟩ : sm_F 0 22 (.invokespecial 93) 3),
  List.forall_mem_cons.mpr ⟨(⟨rfl, mf_9, tw_t189, tw_t190, rfl, by decide, 21, (r_0 _ (List.mem_of_getElem? (i := 162) rfl)), Or.inl tw_t188⟩ : sm_F 0 118 (.invokevirtual 9) 3),
  List.forall_mem_cons.mpr ⟨(⟨rfl, mf_94, tw_t806, tw_t807, rfl, by decide, 25, (r_0 _ (List.mem_of_getElem? (i := 163) rfl)), Or.inl tw_t805⟩ : sm_F 0 127 (.invokevirtual 94) 3),
  List.forall_mem_cons.mpr ⟨(⟨rfl, mf_12, tw_t204, tw_t205, rfl, by decide, 26, (r_0 _ (List.mem_of_getElem? (i := 164) rfl)), Or.inl tw_t203⟩ : sm_F 0 141 (.invokevirtual 12) 3),
  List.forall_mem_cons.mpr ⟨(⟨rfl, mf_95, tw_t810, tw_t811, rfl, by decide, 29, (r_0 _ (List.mem_of_getElem? (i := 165) rfl)), Or.inl tw_t809⟩ : sm_F 0 150 (.invokevirtual 95) 3),
  List.forall_mem_cons.mpr ⟨(⟨rfl, mf_21, tw_t328, tw_t329, rfl, by decide, 30, (r_0 _ (List.mem_of_getElem? (i := 166) rfl)), Or.inl tw_t327⟩ : sm_F 0 159 (.invokevirtual 21) 3),
  List.forall_mem_cons.mpr ⟨(⟨rfl, mf_99, tw_t826, tw_t827, rfl, by decide, 34, (r_0 _ (List.mem_of_getElem? (i := 167) rfl)), Or.inl tw_t825⟩ : sm_F 0 163 (.invokevirtual 99) 3),
  List.forall_mem_cons.mpr ⟨(⟨rfl, mf_22, tw_t332, tw_t333, rfl, by decide, 35, (r_0 _ (List.mem_of_getElem? (i := 168) rfl)), Or.inl tw_t331⟩ : sm_F 0 172 (.invokevirtual 22) 3),
  List.forall_mem_cons.mpr ⟨(⟨rfl, mf_100, tw_t830, tw_t831, rfl, by decide, 38, (r_0 _ (List.mem_of_getElem? (i := 169) rfl)), Or.inl tw_t829⟩ : sm_F 0 176 (.invokevirtual 100) 3),
  List.forall_mem_cons.mpr ⟨(⟨rfl, mf_25, tw_t367, tw_t368, rfl, by decide, 39, (r_0 _ (List.mem_of_getElem? (i := 170) rfl)), Or.inl tw_t366⟩ : sm_F 0 190 (.invokevirtual 25) 3),
  List.forall_mem_cons.mpr ⟨(⟨rfl, mf_101, tw_t834, tw_t835, rfl, by decide, 42, (r_0 _ (List.mem_of_getElem? (i := 171) rfl)), Or.inl tw_t833⟩ : sm_F 0 199 (.invokevirtual 101) 3),
  List.forall_mem_cons.mpr ⟨(⟨rfl, mf_29, tw_t383, tw_t384, rfl, by decide, 43, (r_0 _ (List.mem_of_getElem? (i := 172) rfl)), Or.inl tw_t382⟩ : sm_F 0 208 (.invokevirtual 29) 3),
  List.forall_mem_cons.mpr ⟨(⟨rfl, mf_102, tw_t838, tw_t839, rfl, by decide, 46, (r_0 _ (List.mem_of_getElem? (i := 173) rfl)), Or.inl tw_t837⟩ : sm_F 0 212 (.invokevirtual 102) 3),
  List.forall_mem_cons.mpr ⟨(⟨rfl, mf_31, tw_t391, tw_t392, rfl, by decide, 47, (r_0 _ (List.mem_of_getElem? (i := 174) rfl)), Or.inl tw_t390⟩ : sm_F 0 221 (.invokevirtual 31) 3),
  List.forall_mem_cons.mpr ⟨(⟨rfl, mf_103, tw_t842, tw_t843, rfl, by decide, 50, (r_0 _ (List.mem_of_getElem? (i := 175) rfl)), Or.inl tw_t841⟩ : sm_F 0 225 (.invokevirtual 103) 3),
  List.forall_mem_cons.mpr ⟨(⟨rfl, mf_65, tw_t593, tw_t594, rfl, by decide, 51, (r_0 _ (List.mem_of_getElem? (i := 176) rfl)), Or.inl tw_t592⟩ : sm_F 0 234 (.invokevirtual 65) 3),
  List.forall_mem_cons.mpr ⟨(⟨rfl, mf_129, tw_t989, tw_t990, rfl, by decide, 54, (r_0 _ (List.mem_of_getElem? (i := 177) rfl)), Or.inl tw_t988⟩ : sm_F 0 238 (.invokevirtual 129) 3),
  List.forall_mem_cons.mpr ⟨(⟨rfl, mf_68, tw_t609, tw_t610, rfl, by decide, 55, (r_0 _ (List.mem_of_getElem? (i := 178) rfl)), Or.inl tw_t608⟩ : sm_F 0 247 (.invokevirtual 68) 3),
  List.forall_mem_cons.mpr ⟨(⟨rfl, mf_132, tw_t1008, tw_t1009, rfl, by decide, 58, (r_0 _ (List.mem_of_getElem? (i := 179) rfl)), Or.inl tw_t1007⟩ : sm_F 0 251 (.invokevirtual 132) 3),
  List.forall_mem_cons.mpr ⟨(⟨rfl, mf_69, tw_t613, tw_t614, rfl, by decide, 59, (r_0 _ (List.mem_of_getElem? (i := 180) rfl)), Or.inl tw_t612⟩ : sm_F 0 260 (.invokevirtual 69) 3),
  List.forall_mem_cons.mpr ⟨(⟨rfl, mf_133, tw_t1012, tw_t1013, rfl, by decide, 62, (r_0 _ (List.mem_of_getElem? (i := 181) rfl)), Or.inl tw_t1011⟩ : sm_F 0 264 (.invokevirtual 133) 3),
  List.forall_mem_cons.mpr ⟨(⟨rfl, mf_72, tw_t625, tw_t626, rfl, by decide, 63, (r_0 _ (List.mem_of_getElem? (i := 182) rfl)), Or.inl tw_t624⟩ : sm_F 0 273 (.invokevirtual 72) 3),
  List.forall_mem_cons.mpr ⟨(⟨rfl, mf_134, tw_t1016, tw_t1017, rfl, by decide, 66, (r_0 _ (List.mem_of_getElem? (i := 183) rfl)), Or.inl tw_t1015⟩ : sm_F 0 277 (.invokevirtual 134) 3),
  List.forall_mem_cons.mpr ⟨(⟨rfl, mf_83, tw_t684, tw_t685, rfl, by decide, 67, (r_0 _ (List.mem_of_getElem? (i := 184) rfl)), Or.inl tw_t683⟩ : sm_F 0 291 (.invokevirtual 83) 3),
  List.forall_mem_cons.mpr ⟨(⟨rfl, mf_145, tw_t1068, tw_t1069, rfl, by decide, 70, (r_0 _ (List.mem_of_getElem? (i := 185) rfl)), Or.inl tw_t1067⟩ : sm_F 0 300 (.invokevirtual 145) 3),
  List.forall_mem_cons.mpr ⟨(⟨rfl, mf_85, tw_t692, tw_t693, rfl, by decide, 71, (r_0 _ (List.mem_of_getElem? (i := 186) rfl)), Or.inl tw_t691⟩ : sm_F 0 314 (.invokevirtual 85) 3),
  List.forall_mem_cons.mpr ⟨(⟨rfl, mf_146, tw_t1072, tw_t1073, rfl, by decide, 74, (r_0 _ (List.mem_of_getElem? (i := 187) rfl)), Or.inl tw_t1071⟩ : sm_F 0 323 (.invokevirtual 146) 3),
  List.forall_mem_cons.mpr ⟨(⟨rfl, mf_87, tw_t700, tw_t701, rfl, by decide, 75, (r_0 _ (List.mem_of_getElem? (i := 188) rfl)), Or.inl tw_t699⟩ : sm_F 0 337 (.invokevirtual 87) 3),
  List.forall_mem_cons.mpr ⟨(⟨rfl, mf_147, tw_t1076, tw_t1077, rfl, by decide, 78, (r_0 _ (List.mem_of_getElem? (i := 189) rfl)), Or.inl tw_t1075⟩ : sm_F 0 346 (.invokevirtual 147) 3),
  fun _ h => absurd h List.not_mem_nil⟩⟩⟩⟩⟩⟩⟩⟩⟩⟩⟩⟩⟩⟩⟩⟩⟩⟩⟩⟩⟩⟩⟩⟩⟩⟩⟩⟩⟩⟩⟩⟩⟩⟩
theorem f_0 : ∀ q ∈ cd_0, sm_F 0 q.1 q.2.2.2 q.2.1 := List.forall_mem_append.mpr ⟨fs_0, fl_0⟩
theorem r_1 : ∀ q ∈ cd_1, decode (mB 1) q.1 = .ok (q.2.2.1, q.2.1) := sm_all (by decide +kernel)
theorem fs_1 : ∀ q ∈ sp_1, sm_F 1 q.1 q.2.2.2 q.2.1 := sm_rsl (fun q h => r_1 q (List.mem_append_left _ h)) (by decide +kernel)
theorem fl_1 : ∀ q ∈ lk_1, sm_F 1 q.1 q.2.2.2 q.2.1 := List.forall_mem_cons.mpr ⟨(⟨rfl, 1, (r_1 _ (List.mem_of_getElem? (i := 32) rfl)), tw_t22, tw_t23, tw_t24⟩ : sm_F 1 1 .monitorenter 3),
  List.forall_mem_cons.mpr ⟨(⟨by decide, rfl, 7, (r_1 _ (List.mem_of_getElem? (i := 33) rfl)), tw_t25, tw_t26, tw_t2⟩ : sm_F 1 5 (.new 1) 3),
  List.forall_mem_cons.mpr ⟨(⟨rfl, mf_2, tw_t28, rfl, rfl, 11, (r_1 _ (List.mem_of_getElem? (i := 34) rfl)), Or.inl tw_t27⟩ : sm_F 1 11 (.invokespecial 2) 3),
  List.forall_mem_cons.mpr ⟨(⟨by decide, by decide, rfl, 14, (r_1 _ (List.mem_of_getElem? (i := 35) rfl)), Or.inr ⟨rfl, rfl, rfl, tw_t157⟩⟩ : sm_F 1 14 (.putfield 0) 3),
  List.forall_mem_cons.mpr ⟨(⟨by decide, rfl, 18, (r_1 _ (List.mem_of_getElem? (i := 36) rfl)), tw_t39, tw_t40, tw_t3⟩ : sm_F 1 18 (.new 2) 3),
  List.forall_mem_cons.mpr ⟨(⟨rfl, mf_3, tw_t42, rfl, rfl, 20, (r_1 _ (List.mem_of_getElem? (i := 37) rfl)), Or.inr ⟨"TestEmitter", tw_t41⟩⟩ : sm_F 1 22 (.invokespecial 3) 3),
  List.forall_mem_cons.mpr ⟨(⟨by decide, by decide, rfl, 21, (r_1 _ (List.mem_of_getElem? (i := 38) rfl)), Or.inl ⟨rfl, Or.inl tw_t158⟩⟩ : sm_F 1 25 (.putfield 1) 3),
  List.forall_mem_cons.mpr ⟨(⟨by decide, rfl, 25, (r_1 _ (List.mem_of_getElem? (i := 39) rfl)), tw_t54, tw_t55, tw_t4⟩ : sm_F 1 29 (.new 3) 3),
  List.forall_mem_cons.mpr ⟨(⟨rfl, mf_4, tw_t57, rfl, rfl, 27, (r_1 _ (List.mem_of_getElem? (i := 40) rfl)), Or.inl tw_t56⟩ : sm_F 1 37 (.invokespecial 4) 3),
  List.forall_mem_cons.mpr ⟨(⟨by decide, by decide, rfl, 30, (r_1 _ (List.mem_of_getElem? (i := 41) rfl)), Or.inl ⟨rfl, Or.inl tw_t159⟩⟩ : sm_F 1 40 (.putfield 2) 3),
  List.forall_mem_cons.mpr ⟨(⟨by decide, rfl, 34, (r_1 _ (List.mem_of_getElem? (i := 42) rfl)), tw_t70, tw_t71, tw_t5⟩ : sm_F 1 44 (.new 4) 3),
  List.forall_mem_cons.mpr ⟨(⟨rfl, mf_5, tw_t73, rfl, rfl, 36, (r_1 _ (List.mem_of_getElem? (i := 43) rfl)), Or.inl tw_t72⟩ : sm_F 1 48 (.invokespecial 5) 3),
  List.forall_mem_cons.mpr ⟨(⟨by decide, by decide, rfl, 37, (r_1 _ (List.mem_of_getElem? (i := 44) rfl)), Or.inr ⟨rfl, rfl, rfl, tw_t160⟩⟩ : sm_F 1 51 (.putfield 3) 3),
  List.forall_mem_cons.mpr ⟨(⟨by decide, rfl, 7, (r_1 _ (List.mem_of_getElem? (i := 45) rfl)), tw_t25, tw_t26, tw_t2⟩ : sm_F 1 55 (.new 1) 3),
  List.forall_mem_cons.mpr ⟨(⟨rfl, mf_2, tw_t28, rfl, rfl, 11, (r_1 _ (List.mem_of_getElem? (i := 46) rfl)), Or.inl tw_t27⟩ : sm_F 1 62 (.invokespecial 2) 3),
  List.forall_mem_cons.mpr ⟨(⟨by decide, by decide, rfl, 41, (r_1 _ (List.mem_of_getElem? (i := 47) rfl)), Or.inr ⟨rfl, rfl, rfl, tw_t161⟩⟩ : sm_F 1 65 (.putfield 4) 3),
  List.forall_mem_cons.mpr ⟨(⟨by decide, rfl, 7, (r_1 _ (List.mem_of_getElem? (i := 48) rfl)), tw_t25, tw_t26, tw_t2⟩ : sm_F 1 69 (.new 1) 3),
  List.forall_mem_cons.mpr ⟨(⟨rfl, mf_2, tw_t28, rfl, rfl, 11, (r_1 _ (List.mem_of_getElem? (i := 49) rfl)), Or.inl tw_t27⟩ : sm_F 1 76 (.invokespecial 2) 3),
  List.forall_mem_cons.mpr ⟨(⟨by decide, by decide, rfl, 44, (r_1 _ (List.mem_of_getElem? (i := 50) rfl)), Or.inr ⟨rfl, rfl, rfl, tw_t162⟩⟩ : sm_F 1 79 (.putfield 5) 3),
  List.forall_mem_cons.mpr ⟨(⟨by decide, rfl, 7, (r_1 _ (List.mem_of_getElem? (i := 51) rfl)), tw_t25, tw_t26, tw_t2⟩ : sm_F 1 83 (.new 1) 3),
  List.forall_mem_cons.mpr ⟨(⟨rfl, mf_2, tw_t28, rfl, rfl, 11, (r_1 _ (List.mem_of_getElem? (i := 52) rfl)), Or.inl tw_t27⟩ : sm_F 1 90 (.invokespecial 2) 3),
  List.forall_mem_cons.mpr ⟨(⟨by decide, by decide, rfl, 47, (r_1 _ (List.mem_of_getElem? (i := 53) rfl)), Or.inr ⟨rfl, rfl, rfl, tw_t163⟩⟩ : sm_F 1 93 (.putfield 6) 3),
  List.forall_mem_cons.mpr ⟨(⟨by decide, rfl, 50, (r_1 _ (List.mem_of_getElem? (i := 54) rfl)), tw_t103, tw_t104, tw_t7⟩ : sm_F 1 97 (.new 6) 3),
  List.forall_mem_cons.mpr ⟨(⟨rfl, mf_7, tw_t106, rfl, rfl, 52, (r_1 _ (List.mem_of_getElem? (i := 55) rfl)), Or.inr ⟨"TestEmitter", tw_t105⟩⟩ : sm_F 1 101 (.invokespecial 7) 3),
  List.forall_mem_cons.mpr ⟨(⟨by decide, by decide, rfl, 53, (r_1 _ (List.mem_of_getElem? (i := 56) rfl)), Or.inr ⟨rfl, rfl, rfl, tw_t164⟩⟩ : sm_F 1 104 (.putfield 7) 3),
  List.forall_mem_cons.mpr ⟨(⟨by decide, by decide, rfl, 57, (r_1 _ (List.mem_of_getElem? (i := 57) rfl)), Or.inl ⟨rfl, Or.inl tw_t166⟩⟩ : sm_F 1 109 (.putfield 9) 3),
  List.forall_mem_cons.mpr ⟨(⟨by decide, rfl, 61, (r_1 _ (List.mem_of_getElem? (i := 58) rfl)), tw_t121, tw_t122, tw_t8⟩ : sm_F 1 113 (.new 7) 3),
  List.forall_mem_cons.mpr ⟨(⟨rfl, 63, (r_1 _ (List.mem_of_getElem? (i := 59) rfl)), tw_t123, tw_t124, tw_t9, tw_t125⟩ : sm_F 1 122 .dsub 3),
  List.forall_mem_cons.mpr ⟨(⟨rfl, 69, (r_1 _ (List.mem_of_getElem? (i := 60) rfl)), tw_t126, tw_t127, tw_t9, tw_t128⟩ : sm_F 1 125 .dadd 3),
  List.forall_mem_cons.mpr ⟨(⟨rfl, mf_8, tw_t130, rfl, rfl, 72, (r_1 _ (List.mem_of_getElem? (i := 61) rfl)), Or.inl tw_t129⟩ : sm_F 1 128 (.invokespecial 8) 3),
  List.forall_mem_cons.mpr ⟨(⟨by decide, by decide, rfl, 73, (r_1 _ (List.mem_of_getElem? (i := 62) rfl)), Or.inr ⟨rfl, rfl, rfl, tw_t165⟩⟩ : sm_F 1 131 (.putfield 8) 3),
  fun _ h => absurd h List.not_mem_nil⟩⟩⟩⟩⟩⟩⟩⟩⟩⟩⟩⟩⟩⟩⟩⟩⟩⟩⟩⟩⟩⟩⟩⟩⟩⟩⟩⟩⟩⟩⟩
theorem f_1 : ∀ q ∈ cd_1, sm_F 1 q.1 q.2.2.2 q.2.1 := List.forall_mem_append.mpr ⟨fs_1, fl_1⟩
theorem r_2 : ∀ q ∈ cd_2, decode (mB 2) q.1 = .ok (q.2.2.1, q.2.1) := sm_all (by decide +kernel)
theorem fs_2 : ∀ q ∈ sp_2, sm_F 2 q.1 q.2.2.2 q.2.1 := sm_rsl (fun q h => r_2 q (List.mem_append_left _ h)) (by decide +kernel)
theorem fl_2 : ∀ q ∈ lk_2, sm_F 2 q.1 q.2.2.2 q.2.1 := List.forall_mem_cons.mpr ⟨(⟨rfl, 3, (r_2 _ (List.mem_of_getElem? (i := 4) rfl)), tw_t30, tw_t23, tw_t24⟩ : sm_F 2 1 .monitorenter 3),
  List.forall_mem_cons.mpr ⟨(⟨(r_2 _ (List.mem_of_getElem? (i := 5) rfl)), rfl, tw_t38⟩ : sm_F 2 6 (.newarray .char) 2),
  List.forall_mem_cons.mpr ⟨(⟨by decide, by decide, rfl, 9, (r_2 _ (List.mem_of_getElem? (i := 6) rfl)), Or.inl ⟨rfl, Or.inl tw_t31⟩⟩ : sm_F 2 8 (.putfield 32) 3),
  fun _ h => absurd h List.not_mem_nil⟩⟩⟩
theorem f_2 : ∀ q ∈ cd_2, sm_F 2 q.1 q.2.2.2 q.2.1 := List.forall_mem_append.mpr ⟨fs_2, fl_2⟩
theorem r_3 : ∀ q ∈ cd_3, decode (mB 3) q.1 = .ok (q.2.2.1, q.2.1) := sm_all (by decide +kernel)
theorem fs_3 : ∀ q ∈ sp_3, sm_F 3 q.1 q.2.2.2 q.2.1 := sm_rsl (fun q h => r_3 q (List.mem_append_left _ h)) (by decide +kernel)
theorem fl_3 : ∀ q ∈ lk_3, sm_F 3 q.1 q.2.2.2 q.2.1 := List.forall_mem_cons.mpr ⟨(⟨rfl, 3, (r_3 _ (List.mem_of_getElem? (i := 4) rfl)), tw_t44, tw_t23, tw_t24⟩ : sm_F 3 1 .monitorenter 3),
  List.forall_mem_cons.mpr ⟨(⟨rfl, 9, (r_3 _ (List.mem_of_getElem? (i := 5) rfl)), tw_t45, tw_t46⟩ : sm_F 3 6 (.anewarray 3) 3),
  List.forall_mem_cons.mpr ⟨(⟨by decide, by decide, rfl, 11, (r_3 _ (List.mem_of_getElem? (i := 6) rfl)), Or.inr ⟨rfl, rfl, rfl, tw_t47⟩⟩ : sm_F 3 9 (.putfield 64) 3),
  fun _ h => absurd h List.not_mem_nil⟩⟩⟩
theorem f_3 : ∀ q ∈ cd_3, sm_F 3 q.1 q.2.2.2 q.2.1 := List.forall_mem_append.mpr ⟨fs_3, fl_3⟩
theorem r_4 : ∀ q ∈ cd_4, decode (mB 4) q.1 = .ok (q.2.2.1, q.2.1) := sm_all (by decide +kernel)
theorem fs_4 : ∀ q ∈ sp_4, sm_F 4 q.1 q.2.2.2 q.2.1 := sm_rsl (fun q h => r_4 q (List.mem_append_left _ h)) (by decide +kernel)
theorem fl_4 : ∀ q ∈ lk_4, sm_F 4 q.1 q.2.2.2 q.2.1 := List.forall_mem_cons.mpr ⟨(⟨rfl, 3, (r_4 _ (List.mem_of_getElem? (i := 8) rfl)), tw_t59, tw_t23, tw_t24⟩ : sm_F 4 1 .monitorenter 3),
  List.forall_mem_cons.mpr ⟨(⟨by decide, by decide, rfl, 9, (r_4 _ (List.mem_of_getElem? (i := 9) rfl)), Or.inr ⟨rfl, rfl, rfl, tw_t60⟩⟩ : sm_F 4 6 (.putfield 96) 3),
  List.forall_mem_cons.mpr ⟨(⟨by decide, by decide, rfl, 15, (r_4 _ (List.mem_of_getElem? (i := 10) rfl)), Or.inr ⟨rfl, rfl, rfl, tw_t61⟩⟩ : sm_F 4 11 (.putfield 97) 3),
  List.forall_mem_cons.mpr ⟨(⟨by decide, by decide, rfl, 18, (r_4 _ (List.mem_of_getElem? (i := 11) rfl)), Or.inr ⟨rfl, rfl, rfl, tw_t62⟩⟩ : sm_F 4 16 (.putfield 98) 3),
  fun _ h => absurd h List.not_mem_nil⟩⟩⟩⟩
theorem f_4 : ∀ q ∈ cd_4, sm_F 4 q.1 q.2.2.2 q.2.1 := List.forall_mem_append.mpr ⟨fs_4, fl_4⟩
theorem r_5 : ∀ q ∈ cd_5, decode (mB 5) q.1 = .ok (q.2.2.1, q.2.1) := sm_all (by decide +kernel)
theorem fs_5 : ∀ q ∈ sp_5, sm_F 5 q.1 q.2.2.2 q.2.1 := sm_rsl (fun q h => r_5 q (List.mem_append_left _ h)) (by decide +kernel)
theorem fl_5 : ∀ q ∈ lk_5, sm_F 5 q.1 q.2.2.2 q.2.1 := List.forall_mem_cons.mpr ⟨(⟨rfl, 3, (r_5 _ (List.mem_of_getElem? (i := 17) rfl)), tw_t75, tw_t23, tw_t24⟩ : sm_F 5 1 .monitorenter 3),
  List.forall_mem_cons.mpr ⟨(⟨by decide, rfl, 9, (r_5 _ (List.mem_of_getElem? (i := 18) rfl)), tw_t76, tw_t77, tw_t6⟩ : sm_F 5 5 (.new 5) 3),
  List.forall_mem_cons.mpr ⟨(⟨rfl, mf_6, tw_t79, rfl, rfl, 11, (r_5 _ (List.mem_of_getElem? (i := 19) rfl)), Or.inr ⟨"TestEmitter", tw_t78⟩⟩ : sm_F 5 9 (.invokespecial 6) 3),
  List.forall_mem_cons.mpr ⟨(⟨by decide, by decide, rfl, 12, (r_5 _ (List.mem_of_getElem? (i := 20) rfl)), Or.inr ⟨rfl, rfl, rfl, tw_t96⟩⟩ : sm_F 5 12 (.putfield 128) 3),
  List.forall_mem_cons.mpr ⟨(⟨rfl, 18, (r_5 _ (List.mem_of_getElem? (i := 21) rfl)), tw_t93, tw_t94⟩ : sm_F 5 17 (.anewarray 2) 3),
  List.forall_mem_cons.mpr ⟨(⟨by decide, by decide, rfl, 20, (r_5 _ (List.mem_of_getElem? (i := 22) rfl)), Or.inr ⟨rfl, rfl, rfl, tw_t97⟩⟩ : sm_F 5 20 (.putfield 129) 3),
  List.forall_mem_cons.mpr ⟨(⟨by decide, by decide, rfl, 20, (r_5 _ (List.mem_of_getElem? (i := 23) rfl)), Or.inl tw_t97⟩ : sm_F 5 31 (.getfield 129) 3),
  List.forall_mem_cons.mpr ⟨(⟨by decide, rfl, 18, (r_5 _ (List.mem_of_getElem? (i := 24) rfl)), tw_t93, tw_t40, tw_t3⟩ : sm_F 5 35 (.new 2) 3),
  List.forall_mem_cons.mpr ⟨(⟨rfl, mf_3, tw_t42, rfl, rfl, 24, (r_5 _ (List.mem_of_getElem? (i := 25) rfl)), Or.inr ⟨"TestEmitter", tw_t95⟩⟩ : sm_F 5 39 (.invokespecial 3) 3),
  fun _ h => absurd h List.not_mem_nil⟩⟩⟩⟩⟩⟩⟩⟩⟩
theorem f_5 : ∀ q ∈ cd_5, sm_F 5 q.1 q.2.2.2 q.2.1 := List.forall_mem_append.mpr ⟨fs_5, fl_5⟩
theorem r_6 : ∀ q ∈ cd_6, decode (mB 6) q.1 = .ok (q.2.2.1, q.2.1) := sm_all (by decide +kernel)
theorem fs_6 : ∀ q ∈ sp_6, sm_F 6 q.1 q.2.2.2 q.2.1 := sm_rsl (fun q h => r_6 q (List.mem_append_left _ h)) (by decide +kernel)
theorem fl_6 : ∀ q ∈ lk_6, sm_F 6 q.1 q.2.2.2 q.2.1 := List.forall_mem_cons.mpr ⟨(⟨rfl, 3, (r_6 _ (List.mem_of_getElem? (i := 4) rfl)), tw_t81, tw_t23, tw_t24⟩ : sm_F 6 1 .monitorenter 3),
  List.forall_mem_cons.mpr ⟨(⟨(r_6 _ (List.mem_of_getElem? (i := 5) rfl)), rfl, tw_t92⟩ : sm_F 6 7 (.newarray .int) 2),
  List.forall_mem_cons.mpr ⟨(⟨by decide, by decide, rfl, 9, (r_6 _ (List.mem_of_getElem? (i := 6) rfl)), Or.inr ⟨rfl, rfl, rfl, tw_t82⟩⟩ : sm_F 6 9 (.putfield 160) 3),
  fun _ h => absurd h List.not_mem_nil⟩⟩⟩
theorem f_6 : ∀ q ∈ cd_6, sm_F 6 q.1 q.2.2.2 q.2.1 := List.forall_mem_append.mpr ⟨fs_6, fl_6⟩
theorem r_7 : ∀ q ∈ cd_7, decode (mB 7) q.1 = .ok (q.2.2.1, q.2.1) := sm_all (by decide +kernel)
theorem fs_7 : ∀ q ∈ sp_7, sm_F 7 q.1 q.2.2.2 q.2.1 := sm_rsl (fun q h => r_7 q (List.mem_append_left _ h)) (by decide +kernel)
theorem fl_7 : ∀ q ∈ lk_7, sm_F 7 q.1 q.2.2.2 q.2.1 := List.forall_mem_cons.mpr ⟨(⟨rfl, 3, (r_7 _ (List.mem_of_getElem? (i := 4) rfl)), tw_t108, tw_t23, tw_t24⟩ : sm_F 7 1 .monitorenter 3),
  List.forall_mem_cons.mpr ⟨(⟨rfl, 9, (r_7 _ (List.mem_of_getElem? (i := 5) rfl)), tw_t109, tw_t110⟩ : sm_F 7 7 (.anewarray 1) 3),
  List.forall_mem_cons.mpr ⟨(⟨by decide, by decide, rfl, 11, (r_7 _ (List.mem_of_getElem? (i := 6) rfl)), Or.inr ⟨rfl, rfl, rfl, tw_t111⟩⟩ : sm_F 7 10 (.putfield 192) 3),
  fun _ h => absurd h List.not_mem_nil⟩⟩⟩
theorem f_7 : ∀ q ∈ cd_7, sm_F 7 q.1 q.2.2.2 q.2.1 := List.forall_mem_append.mpr ⟨fs_7, fl_7⟩
theorem r_8 : ∀ q ∈ cd_8, decode (mB 8) q.1 = .ok (q.2.2.1, q.2.1) := sm_all (by decide +kernel)
theorem fs_8 : ∀ q ∈ sp_8, sm_F 8 q.1 q.2.2.2 q.2.1 := sm_rsl (fun q h => r_8 q (List.mem_append_left _ h)) (by decide +kernel)
theorem fl_8 : ∀ q ∈ lk_8, sm_F 8 q.1 q.2.2.2 q.2.1 := List.forall_mem_cons.mpr ⟨(⟨rfl, 3, (r_8 _ (List.mem_of_getElem? (i := 9) rfl)), tw_t132, tw_t23, tw_t24⟩ : sm_F 8 1 .monitorenter 3),
  List.forall_mem_cons.mpr ⟨(⟨by decide, rfl, 9, (r_8 _ (List.mem_of_getElem? (i := 10) rfl)), tw_t133, tw_t26, tw_t2⟩ : sm_F 8 5 (.new 1) 3),
  List.forall_mem_cons.mpr ⟨(⟨rfl, mf_2, tw_t28, rfl, rfl, 11, (r_8 _ (List.mem_of_getElem? (i := 11) rfl)), Or.inl tw_t134⟩ : sm_F 8 12 (.invokespecial 2) 3),
  List.forall_mem_cons.mpr ⟨(⟨by decide, by decide, rfl, 14, (r_8 _ (List.mem_of_getElem? (i := 12) rfl)), Or.inr ⟨rfl, rfl, rfl, tw_t136⟩⟩ : sm_F 8 15 (.putfield 225) 3),
  List.forall_mem_cons.mpr ⟨(⟨(r_8 _ (List.mem_of_getElem? (i := 13) rfl)), rfl, tw_t92⟩ : sm_F 8 21 (.newarray .int) 2),
  List.forall_mem_cons.mpr ⟨(⟨by decide, by decide, rfl, 20, (r_8 _ (List.mem_of_getElem? (i := 14) rfl)), Or.inl ⟨rfl, Or.inl tw_t137⟩⟩ : sm_F 8 23 (.putfield 226) 3),
  List.forall_mem_cons.mpr ⟨(⟨by decide, by decide, rfl, 24, (r_8 _ (List.mem_of_getElem? (i := 15) rfl)), Or.inr ⟨rfl, rfl, rfl, tw_t135⟩⟩ : sm_F 8 28 (.putfield 224) 3),
  fun _ h => absurd h List.not_mem_nil⟩⟩⟩⟩⟩⟩⟩
theorem f_8 : ∀ q ∈ cd_8, sm_F 8 q.1 q.2.2.2 q.2.1 := List.forall_mem_append.mpr ⟨fs_8, fl_8⟩
theorem r_9 : ∀ q ∈ cd_9, decode (mB 9) q.1 = .ok (q.2.2.1, q.2.1) := sm_all (by decide +kernel)
theorem fs_9 : ∀ q ∈ sp_9, sm_F 9 q.1 q.2.2.2 q.2.1 := sm_rsl (fun q h => r_9 q (List.mem_append_left _ h)) (by decide +kernel)
theorem fl_9 : ∀ q ∈ lk_9, sm_F 9 q.1 q.2.2.2 q.2.1 := List.forall_mem_cons.mpr ⟨(⟨by decide, by decide, rfl, 14, (r_9 _ (List.mem_of_getElem? (i := 16) rfl)), Or.inl tw_t157⟩ : sm_F 9 13 (.getfield 0) 3),
  List.forall_mem_cons.mpr ⟨(⟨rfl, mf_10, tw_t193, tw_t194, rfl, by decide, 77, (r_9 _ (List.mem_of_getElem? (i := 17) rfl)), Or.inl tw_t192⟩ : sm_F 9 16 (.invokevirtual 10) 3),
  List.forall_mem_cons.mpr ⟨(⟨by decide, by decide, rfl, 14, (r_9 _ (List.mem_of_getElem? (i := 18) rfl)), Or.inl tw_t157⟩ : sm_F 9 28 (.getfield 0) 3),
  List.forall_mem_cons.mpr ⟨(⟨rfl, mf_11, tw_t197, tw_t198, rfl, by decide, 81, (r_9 _ (List.mem_of_getElem? (i := 19) rfl)), Or.inl tw_t196⟩ : sm_F 9 32 (.invokevirtual 11) 3),
  List.forall_mem_cons.mpr ⟨(⟨by decide, by decide, rfl, 14, (r_9 _ (List.mem_of_getElem? (i := 20) rfl)), Or.inl tw_t157⟩ : sm_F 9 36 (.getfield 0) 3),
  List.forall_mem_cons.mpr ⟨(⟨rfl, mf_10, tw_t193, tw_t194, rfl, by decide, 77, (r_9 _ (List.mem_of_getElem? (i := 21) rfl)), Or.inl tw_t192⟩ : sm_F 9 39 (.invokevirtual 10) 3),
  fun _ h => absurd h List.not_mem_nil⟩⟩⟩⟩⟩⟩
theorem f_9 : ∀ q ∈ cd_9, sm_F 9 q.1 q.2.2.2 q.2.1 := List.forall_mem_append.mpr ⟨fs_9, fl_9⟩
theorem r_10 : ∀ q ∈ cd_10, decode (mB 10) q.1 = .ok (q.2.2.1, q.2.1) := sm_all (by decide +kernel)
theorem fs_10 : ∀ q ∈ sp_10, sm_F 10 q.1 q.2.2.2 q.2.1 := sm_rsl (fun q h => r_10 q (List.mem_append_left _ h)) (by decide +kernel)
theorem fl_10 : ∀ q ∈ lk_10, sm_F 10 q.1 q.2.2.2 q.2.1 := List.forall_mem_cons.mpr ⟨(⟨by decide, by decide, rfl, 15, (r_10 _ (List.mem_of_getElem? (i := 2) rfl)), Or.inl tw_t32⟩ : sm_F 10 1 (.getfield 33) 3),
  fun _ h => absurd h List.not_mem_nil⟩
theorem f_10 : ∀ q ∈ cd_10, sm_F 10 q.1 q.2.2.2 q.2.1 := List.forall_mem_append.mpr ⟨fs_10, fl_10⟩
theorem r_11 : ∀ q ∈ cd_11, decode (mB 11) q.1 = .ok (q.2.2.1, q.2.1) := sm_all (by decide +kernel)
theorem fs_11 : ∀ q ∈ sp_11, sm_F 11 q.1 q.2.2.2 q.2.1 := sm_rsl (fun q h => r_11 q (List.mem_append_left _ h)) (by decide +kernel)
theorem fl_11 : ∀ q ∈ lk_11, sm_F 11 q.1 q.2.2.2 q.2.1 := List.forall_mem_cons.mpr ⟨(⟨by decide, by decide, rfl, 15, (r_11 _ (List.mem_of_getElem? (i := 27) rfl)), Or.inl tw_t32⟩ : sm_F 11 1 (.getfield 33) 3),
  List.forall_mem_cons.mpr ⟨(⟨by decide, by decide, rfl, 9, (r_11 _ (List.mem_of_getElem? (i := 28) rfl)), Or.inl tw_t31⟩ : sm_F 11 5 (.getfield 32) 3),
  List.forall_mem_cons.mpr ⟨(⟨by decide, by decide, rfl, 15, (r_11 _ (List.mem_of_getElem? (i := 29) rfl)), Or.inl tw_t32⟩ : sm_F 11 14 (.getfield 33) 3),
  List.forall_mem_cons.mpr ⟨(⟨(r_11 _ (List.mem_of_getElem? (i := 30) rfl)), rfl, tw_t38⟩ : sm_F 11 20 (.newarray .char) 2),
  List.forall_mem_cons.mpr ⟨(⟨by decide, by decide, rfl, 9, (r_11 _ (List.mem_of_getElem? (i := 31) rfl)), Or.inl tw_t31⟩ : sm_F 11 24 (.getfield 32) 3),
  List.forall_mem_cons.mpr ⟨(⟨by decide, by decide, rfl, 15, (r_11 _ (List.mem_of_getElem? (i := 32) rfl)), Or.inl tw_t32⟩ : sm_F 11 31 (.getfield 33) 3),
  List.forall_mem_cons.mpr ⟨(⟨rfl, 19, (r_11 _ (List.mem_of_getElem? (i := 33) rfl)), tw_t200, tw_t202, tw_t201, tw_t11⟩ : sm_F 11 34 .monitorexit 3),
  List.forall_mem_cons.mpr ⟨(⟨by decide, by decide, rfl, 9, (r_11 _ (List.mem_of_getElem? (i := 34) rfl)), Or.inl ⟨rfl, Or.inl tw_t31⟩⟩ : sm_F 11 39 (.putfield 32) 3),
  List.forall_mem_cons.mpr ⟨(⟨by decide, by decide, rfl, 9, (r_11 _ (List.mem_of_getElem? (i := 35) rfl)), Or.inl tw_t31⟩ : sm_F 11 43 (.getfield 32) 3),
  List.forall_mem_cons.mpr ⟨(⟨by decide, by decide, rfl, 15, (r_11 _ (List.mem_of_getElem? (i := 36) rfl)), Or.inl tw_t32⟩ : sm_F 11 47 (.getfield 33) 3),
  List.forall_mem_cons.mpr ⟨(⟨by decide, by decide, rfl, 15, (r_11 _ (List.mem_of_getElem? (i := 37) rfl)), Or.inl tw_t32⟩ : sm_F 11 55 (.getfield 33) 3),
  List.forall_mem_cons.mpr ⟨(⟨by decide, by decide, rfl, 15, (r_11 _ (List.mem_of_getElem? (i := 38) rfl)), Or.inl ⟨rfl, Or.inl tw_t32⟩⟩ : sm_F 11 60 (.putfield 33) 3),
  fun _ h => absurd h List.not_mem_nil⟩⟩⟩⟩⟩⟩⟩⟩⟩⟩⟩⟩
theorem f_11 : ∀ q ∈ cd_11, sm_F 11 q.1 q.2.2.2 q.2.1 := List.forall_mem_append.mpr ⟨fs_11, fl_11⟩
theorem r_12 : ∀ q ∈ cd_12, decode (mB 12) q.1 = .ok (q.2.2.1, q.2.1) := sm_all (by decide +kernel)
theorem fs_12 : ∀ q ∈ sp_12, sm_F 12 q.1 q.2.2.2 q.2.1 := sm_rsl (fun q h => r_12 q (List.mem_append_left _ h)) (by decide +kernel)
theorem fl_12 : ∀ q ∈ lk_12, sm_F 12 q.1 q.2.2.2 q.2.1 := List.forall_mem_cons.mpr ⟨(⟨rfl, mf_13, tw_t209, tw_p0, rfl, by decide, 84, (r_12 _ (List.mem_of_getElem? (i := 18) rfl)), Or.inl tw_t207⟩ : sm_F 12 12 (.invokevirtual 13) 3),
  List.forall_mem_cons.mpr ⟨(⟨by decide, by decide, rfl, 37, (r_12 _ (List.mem_of_getElem? (i := 19) rfl)), Or.inl tw_t160⟩ : sm_F 12 24 (.getfield 3) 3),
  List.forall_mem_cons.mpr ⟨(⟨rfl, mf_19, tw_t319, tw_t320, rfl, by decide, 88, (r_12 _ (List.mem_of_getElem? (i := 20) rfl)), Or.inl tw_t318⟩ : sm_F 12 29 (.invokevirtual 19) 3),
  List.forall_mem_cons.mpr ⟨(⟨rfl, mf_20, tw_t323, tw_t324, rfl, by decide, 92, (r_12 _ (List.mem_of_getElem? (i := 21) rfl)), Or.inl tw_t322⟩ : sm_F 12 33 (.invokevirtual 20) 3),
  fun _ h => absurd h List.not_mem_nil⟩⟩⟩⟩
theorem f_12 : ∀ q ∈ cd_12, sm_F 12 q.1 q.2.2.2 q.2.1 := List.forall_mem_append.mpr ⟨fs_12, fl_12⟩
theorem r_13 : ∀ q ∈ cd_13, decode (mB 13) q.1 = .ok (q.2.2.1, q.2.1) := sm_all (by decide +kernel)
theorem fs_13 : ∀ q ∈ sp_13, sm_F 13 q.1 q.2.2.2 q.2.1 := sm_rsl (fun q h => r_13 q (List.mem_append_left _ h)) (by decide +kernel)
theorem fl_13 : ∀ q ∈ lk_13, sm_F 13 q.1 q.2.2.2 q.2.1 := List.forall_mem_cons.mpr ⟨(⟨by decide, by decide, rfl, 14, (r_13 _ (List.mem_of_getElem? (i := 5) rfl)), Or.inl tw_t157⟩ : sm_F 13 1 (.getfield 0) 3),
  List.forall_mem_cons.mpr ⟨(⟨rfl, mf_14, tw_t212, 168, (r_13 _ (List.mem_of_getElem? (i := 6) rfl)), Or.inl tw_t211⟩ : sm_F 13 4 (.invokestatic 14) 3),
  List.forall_mem_cons.mpr ⟨(⟨by decide, by decide, rfl, 14, (r_13 _ (List.mem_of_getElem? (i := 7) rfl)), Or.inl tw_t157⟩ : sm_F 13 9 (.getfield 0) 3),
  List.forall_mem_cons.mpr ⟨(⟨rfl, mf_18, tw_t315, tw_t316, rfl, by decide, 99, (r_13 _ (List.mem_of_getElem? (i := 8) rfl)), Or.inl tw_t314⟩ : sm_F 13 12 (.invokevirtual 18) 3),
  fun _ h => absurd h List.not_mem_nil⟩⟩⟩⟩
theorem f_13 : ∀ q ∈ cd_13, sm_F 13 q.1 q.2.2.2 q.2.1 := List.forall_mem_append.mpr ⟨fs_13, fl_13⟩
theorem r_14 : ∀ q ∈ cd_14, decode (mB 14) q.1 = .ok (q.2.2.1, q.2.1) := sm_all (by decide +kernel)
theorem fs_14 : ∀ q ∈ sp_14, sm_F 14 q.1 q.2.2.2 q.2.1 := sm_rsl (fun q h => r_14 q (List.mem_append_left _ h)) (by decide +kernel)
theorem fl_14 : ∀ q ∈ lk_14, sm_F 14 q.1 q.2.2.2 q.2.1 := List.forall_mem_cons.mpr ⟨(⟨by decide, rfl, 12, (r_14 _ (List.mem_of_getElem? (i := 37) rfl)), tw_t214, tw_t40, tw_t3⟩ : sm_F 14 0 (.new 2) 3),
  List.forall_mem_cons.mpr ⟨(⟨rfl, mf_3, tw_t42, rfl, rfl, 17, (r_14 _ (List.mem_of_getElem? (i := 38) rfl)), Or.inl tw_t215⟩ : sm_F 14 4 (.invokespecial 3) 3),
  List.forall_mem_cons.mpr ⟨(⟨by decide, by decide, rfl, 18, (r_14 _ (List.mem_of_getElem? (i := 39) rfl)), Or.inl tw_t48⟩ : sm_F 14 11 (.getfield 65) 3),
  List.forall_mem_cons.mpr ⟨(⟨rfl, mf_10, tw_t193, tw_t194, rfl, by decide, 22, (r_14 _ (List.mem_of_getElem? (i := 40) rfl)), Or.inl tw_t216⟩ : sm_F 14 20 (.invokevirtual 10) 3),
  List.forall_mem_cons.mpr ⟨(⟨rfl, mf_15, tw_t218, 28, (r_14 _ (List.mem_of_getElem? (i := 41) rfl)), Or.inl tw_t217⟩ : sm_F 14 28 (.invokestatic 15) 3),
  List.forall_mem_cons.mpr ⟨(⟨by decide, by decide, rfl, 11, (r_14 _ (List.mem_of_getElem? (i := 42) rfl)), Or.inl tw_t47⟩ : sm_F 14 39 (.getfield 64) 3),
  List.forall_mem_cons.mpr ⟨(⟨by decide, by decide, rfl, 18, (r_14 _ (List.mem_of_getElem? (i := 43) rfl)), Or.inl tw_t48⟩ : sm_F 14 43 (.getfield 65) 3),
  List.forall_mem_cons.mpr ⟨(⟨by decide, by decide, rfl, 18, (r_14 _ (List.mem_of_getElem? (i := 44) rfl)), Or.inl tw_t48⟩ : sm_F 14 50 (.getfield 65) 3),
  List.forall_mem_cons.mpr ⟨(⟨by decide, by decide, rfl, 18, (r_14 _ (List.mem_of_getElem? (i := 45) rfl)), Or.inl ⟨rfl, Or.inl tw_t48⟩⟩ : sm_F 14 55 (.putfield 65) 3),
  List.forall_mem_cons.mpr ⟨(⟨rfl, mf_17, tw_t311, tw_t312, rfl, by decide, 32, (r_14 _ (List.mem_of_getElem? (i := 46) rfl)), Or.inl tw_t310⟩ : sm_F 14 60 (.invokevirtual 17) 3),
  List.forall_mem_cons.mpr ⟨(⟨rfl, mf_10, tw_t193, tw_t194, rfl, by decide, 22, (r_14 _ (List.mem_of_getElem? (i := 47) rfl)), Or.inl tw_t216⟩ : sm_F 14 70 (.invokevirtual 10) 3),
  fun _ h => absurd h List.not_mem_nil⟩⟩⟩⟩⟩⟩⟩⟩⟩⟩⟩
theorem f_14 : ∀ q ∈ cd_14, sm_F 14 q.1 q.2.2.2 q.2.1 := List.forall_mem_append.mpr ⟨fs_14, fl_14⟩
theorem r_15 : ∀ q ∈ cd_15, decode (mB 15) q.1 = .ok (q.2.2.1, q.2.1) := sm_all (by decide +kernel)
theorem fs_15 : ∀ q ∈ sp_15, sm_F 15 q.1 q.2.2.2 q.2.1 := sm_rsl (fun q h => r_15 q (List.mem_append_left _ h)) (by decide +kernel)
theorem fl_15 : ∀ q ∈ lk_15, sm_F 15 q.1 q.2.2.2 q.2.1 := List.forall_mem_cons.mpr ⟨(⟨rfl, mf_10, tw_t193, tw_t194, rfl, by decide, 21, (r_15 _ (List.mem_of_getElem? (i := 58) rfl)), Or.inl tw_t220⟩ : sm_F 15 4 (.invokevirtual 10) 3),
  List.forall_mem_cons.mpr ⟨(⟨rfl, mf_16, tw_t222, tw_t223, rfl, by decide, 27, (r_15 _ (List.mem_of_getElem? (i := 59) rfl)), Or.inl tw_t221⟩ : sm_F 15 12 (.invokevirtual 16) 3),
  List.forall_mem_cons.mpr ⟨(⟨rfl, mf_10, tw_t193, tw_t194, rfl, by decide, 21, (r_15 _ (List.mem_of_getElem? (i := 60) rfl)), Or.inl tw_t220⟩ : sm_F 15 37 (.invokevirtual 10) 3),
  List.forall_mem_cons.mpr ⟨(⟨rfl, mf_16, tw_t222, tw_t223, rfl, by decide, 27, (r_15 _ (List.mem_of_getElem? (i := 61) rfl)), Or.inl tw_t221⟩ : sm_F 15 47 (.invokevirtual 16) 3),
  List.forall_mem_cons.mpr ⟨(⟨rfl, mf_16, tw_t222, tw_t223, rfl, by decide, 27, (r_15 _ (List.mem_of_getElem? (i := 62) rfl)), Or.inl tw_t221⟩ : sm_F 15 63 (.invokevirtual 16) 3),
  List.forall_mem_cons.mpr ⟨(⟨by decide, rfl, 10, (r_15 _ (List.mem_of_getElem? (i := 63) rfl)), tw_t225, tw_t55, tw_t4⟩ : sm_F 15 82 (.new 3) 3),
  List.forall_mem_cons.mpr ⟨(⟨rfl, mf_4, tw_t57, rfl, rfl, 31, (r_15 _ (List.mem_of_getElem? (i := 64) rfl)), Or.inl tw_t226⟩ : sm_F 15 91 (.invokespecial 4) 3),
  List.forall_mem_cons.mpr ⟨(⟨34, (r_15 _ (List.mem_of_getElem? (i := 65) rfl)), rfl, by decide +kernel⟩ : ∃ x : Nat, decode (mB 15) 99 = .ok (.ldc x, 2) ∧ 2 = 2 ∧ (((mN 15).cls, x), 0) ∈ sKl),
  List.forall_mem_cons.mpr ⟨(⟨rfl, mf_152, tw_t229, tw_t230, rfl, by decide, 36, (r_15 _ (List.mem_of_getElem? (i := 66) rfl)), Or.inl tw_t228⟩ : sm_F 15 104 (.invokevirtual 152) 3),
  List.forall_mem_cons.mpr ⟨(⟨by decide, rfl, 10, (r_15 _ (List.mem_of_getElem? (i := 67) rfl)), tw_t225, tw_t55, tw_t4⟩ : sm_F 15 110 (.new 3) 3),
  List.forall_mem_cons.mpr ⟨(⟨rfl, mf_4, tw_t57, rfl, rfl, 31, (r_15 _ (List.mem_of_getElem? (i := 68) rfl)), Or.inl tw_t226⟩ : sm_F 15 118 (.invokespecial 4) 3),
  fun _ h => absurd h List.not_mem_nil⟩⟩⟩⟩⟩⟩⟩⟩⟩⟩⟩
theorem f_15 : ∀ q ∈ cd_15, sm_F 15 q.1 q.2.2.2 q.2.1 := List.forall_mem_append.mpr ⟨fs_15, fl_15⟩
theorem r_16 : ∀ q ∈ cd_16, decode (mB 16) q.1 = .ok (q.2.2.1, q.2.1) := sm_all (by decide +kernel)
theorem fs_16 : ∀ q ∈ sp_16, sm_F 16 q.1 q.2.2.2 q.2.1 := sm_rsl (fun q h => r_16 q (List.mem_append_left _ h)) (by decide +kernel)
theorem fl_16 : ∀ q ∈ lk_16, sm_F 16 q.1 q.2.2.2 q.2.1 := List.forall_mem_cons.mpr ⟨(⟨by decide, by decide, rfl, 15, (r_16 _ (List.mem_of_getElem? (i := 11) rfl)), Or.inl tw_t32⟩ : sm_F 16 6 (.getfield 33) 3),
  List.forall_mem_cons.mpr ⟨(⟨by decide, by decide, rfl, 9, (r_16 _ (List.mem_of_getElem? (i := 12) rfl)), Or.inl tw_t31⟩ : sm_F 16 13 (.getfield 32) 3),
  fun _ h => absurd h List.not_mem_nil⟩⟩
theorem f_16 : ∀ q ∈ cd_16, sm_F 16 q.1 q.2.2.2 q.2.1 := List.forall_mem_append.mpr ⟨fs_16, fl_16⟩
theorem r_17 : ∀ q ∈ cd_17, decode (mB 17) q.1 = .ok (q.2.2.1, q.2.1) := sm_all (by decide +kernel)
theorem fs_17 : ∀ q ∈ sp_17, sm_F 17 q.1 q.2.2.2 q.2.1 := sm_rsl (fun q h => r_17 q (List.mem_append_left _ h)) (by decide +kernel)
theorem fl_17 : ∀ q ∈ lk_17, sm_F 17 q.1 q.2.2.2 q.2.1 := List.forall_mem_cons.mpr ⟨(⟨by decide, by decide, rfl, 9, (r_17 _ (List.mem_of_getElem? (i := 9) rfl)), Or.inl tw_t60⟩ : sm_F 17 1 (.getfield 96) 3),
  List.forall_mem_cons.mpr ⟨(⟨by decide, by decide, rfl, 15, (r_17 _ (List.mem_of_getElem? (i := 10) rfl)), Or.inl tw_t61⟩ : sm_F 17 5 (.getfield 97) 3),
  fun _ h => absurd h List.not_mem_nil⟩⟩
theorem f_17 : ∀ q ∈ cd_17, sm_F 17 q.1 q.2.2.2 q.2.1 := List.forall_mem_append.mpr ⟨fs_17, fl_17⟩
theorem r_18 : ∀ q ∈ cd_18, decode (mB 18) q.1 = .ok (q.2.2.1, q.2.1) := sm_all (by decide +kernel)
theorem fs_18 : ∀ q ∈ sp_18, sm_F 18 q.1 q.2.2.2 q.2.1 := sm_rsl (fun q h => r_18 q (List.mem_append_left _ h)) (by decide +kernel)
theorem fl_18 : ∀ q ∈ lk_18, sm_F 18 q.1 q.2.2.2 q.2.1 := List.forall_mem_cons.mpr ⟨(⟨by decide, by decide, rfl, 15, (r_18 _ (List.mem_of_getElem? (i := 3) rfl)), Or.inl ⟨rfl, Or.inl tw_t32⟩⟩ : sm_F 18 2 (.putfield 33) 3),
  fun _ h => absurd h List.not_mem_nil⟩
theorem f_18 : ∀ q ∈ cd_18, sm_F 18 q.1 q.2.2.2 q.2.1 := List.forall_mem_append.mpr ⟨fs_18, fl_18⟩
theorem r_19 : ∀ q ∈ cd_19, decode (mB 19) q.1 = .ok (q.2.2.1, q.2.1) := sm_all (by decide +kernel)
theorem fs_19 : ∀ q ∈ sp_19, sm_F 19 q.1 q.2.2.2 q.2.1 := sm_rsl (fun q h => r_19 q (List.mem_append_left _ h)) (by decide +kernel)
theorem fl_19 : ∀ q ∈ lk_19, sm_F 19 q.1 q.2.2.2 q.2.1 := List.forall_mem_cons.mpr ⟨(⟨by decide, by decide, rfl, 20, (r_19 _ (List.mem_of_getElem? (i := 5) rfl)), Or.inl tw_t97⟩ : sm_F 19 1 (.getfield 129) 3),
  fun _ h => absurd h List.not_mem_nil⟩
theorem f_19 : ∀ q ∈ cd_19, sm_F 19 q.1 q.2.2.2 q.2.1 := List.forall_mem_append.mpr ⟨fs_19, fl_19⟩
theorem r_20 : ∀ q ∈ cd_20, decode (mB 20) q.1 = .ok (q.2.2.1, q.2.1) := sm_all (by decide +kernel)
theorem fs_20 : ∀ q ∈ sp_20, sm_F 20 q.1 q.2.2.2 q.2.1 := sm_rsl (fun q h => r_20 q (List.mem_append_left _ h)) (by decide +kernel)
theorem fl_20 : ∀ q ∈ lk_20, sm_F 20 q.1 q.2.2.2 q.2.1 := List.forall_mem_cons.mpr ⟨(⟨by decide, by decide, rfl, 18, (r_20 _ (List.mem_of_getElem? (i := 2) rfl)), Or.inl tw_t48⟩ : sm_F 20 1 (.getfield 65) 3),
  fun _ h => absurd h List.not_mem_nil⟩
theorem f_20 : ∀ q ∈ cd_20, sm_F 20 q.1 q.2.2.2 q.2.1 := List.forall_mem_append.mpr ⟨fs_20, fl_20⟩
theorem r_21 : ∀ q ∈ cd_21, decode (mB 21) q.1 = .ok (q.2.2.1, q.2.1) := sm_all (by decide +kernel)
theorem fs_21 : ∀ q ∈ sp_21, sm_F 21 q.1 q.2.2.2 q.2.1 := sm_rsl (fun q h => r_21 q (List.mem_append_left _ h)) (by decide +kernel)
theorem fl_21 : ∀ q ∈ lk_21, sm_F 21 q.1 q.2.2.2 q.2.1 := List.forall_mem_cons.mpr ⟨(⟨rfl, mf_13, tw_t209, tw_p0, rfl, by decide, 84, (r_21 _ (List.mem_of_getElem? (i := 10) rfl)), Or.inl tw_t207⟩ : sm_F 21 1 (.invokevirtual 13) 3),
  List.forall_mem_cons.mpr ⟨(⟨by decide, by decide, rfl, 21, (r_21 _ (List.mem_of_getElem? (i := 11) rfl)), Or.inl ⟨rfl, Or.inl tw_t158⟩⟩ : sm_F 21 14 (.putfield 1) 3),
  List.forall_mem_cons.mpr ⟨(⟨rfl, mf_20, tw_t323, tw_t324, rfl, by decide, 92, (r_21 _ (List.mem_of_getElem? (i := 12) rfl)), Or.inl tw_t322⟩ : sm_F 21 18 (.invokevirtual 20) 3),
  fun _ h => absurd h List.not_mem_nil⟩⟩⟩
theorem f_21 : ∀ q ∈ cd_21, sm_F 21 q.1 q.2.2.2 q.2.1 := List.forall_mem_append.mpr ⟨fs_21, fl_21⟩
theorem r_22 : ∀ q ∈ cd_22, decode (mB 22) q.1 = .ok (q.2.2.1, q.2.1) := sm_all (by decide +kernel)
theorem fs_22 : ∀ q ∈ sp_22, sm_F 22 q.1 q.2.2.2 q.2.1 := sm_rsl (fun q h => r_22 q (List.mem_append_left _ h)) (by decide +kernel)
theorem fl_22 : ∀ q ∈ lk_22, sm_F 22 q.1 q.2.2.2 q.2.1 := List.forall_mem_cons.mpr ⟨(⟨by decide, by decide, rfl, 14, (r_22 _ (List.mem_of_getElem? (i := 11) rfl)), Or.inl tw_t157⟩ : sm_F 22 1 (.getfield 0) 3),
  List.forall_mem_cons.mpr ⟨(⟨rfl, mf_23, tw_t336, 95, (r_22 _ (List.mem_of_getElem? (i := 12) rfl)), Or.inl tw_t335⟩ : sm_F 22 4 (.invokestatic 23) 3),
  List.forall_mem_cons.mpr ⟨(⟨by decide, by decide, rfl, 14, (r_22 _ (List.mem_of_getElem? (i := 13) rfl)), Or.inl tw_t157⟩ : sm_F 22 9 (.getfield 0) 3),
  List.forall_mem_cons.mpr ⟨(⟨rfl, mf_18, tw_t315, tw_t316, rfl, by decide, 99, (r_22 _ (List.mem_of_getElem? (i := 14) rfl)), Or.inl tw_t314⟩ : sm_F 22 12 (.invokevirtual 18) 3),
  List.forall_mem_cons.mpr ⟨(⟨by decide, by decide, rfl, 30, (r_22 _ (List.mem_of_getElem? (i := 15) rfl)), Or.inl ⟨rfl, Or.inl tw_t159⟩⟩ : sm_F 22 24 (.putfield 2) 3),
  fun _ h => absurd h List.not_mem_nil⟩⟩⟩⟩⟩
theorem f_22 : ∀ q ∈ cd_22, sm_F 22 q.1 q.2.2.2 q.2.1 := List.forall_mem_append.mpr ⟨fs_22, fl_22⟩
theorem r_23 : ∀ q ∈ cd_23, decode (mB 23) q.1 = .ok (q.2.2.1, q.2.1) := sm_all (by decide +kernel)
theorem fs_23 : ∀ q ∈ sp_23, sm_F 23 q.1 q.2.2.2 q.2.1 := sm_rsl (fun q h => r_23 q (List.mem_append_left _ h)) (by decide +kernel)
theorem fl_23 : ∀ q ∈ lk_23, sm_F 23 q.1 q.2.2.2 q.2.1 := List.forall_mem_cons.mpr ⟨(⟨41, (r_23 _ (List.mem_of_getElem? (i := 19) rfl)), rfl, by decide +kernel⟩ : ∃ x : Nat, decode (mB 23) 1 = .ok (.ldc x, 2) ∧ 2 = 2 ∧ (((mN 23).cls, x), 2) ∈ sKl),
  List.forall_mem_cons.mpr ⟨(⟨rfl, mf_24, tw_t340, tw_t341, rfl, by decide, 43, (r_23 _ (List.mem_of_getElem? (i := 20) rfl)), Or.inl tw_t339⟩ : sm_F 23 3 (.invokevirtual 24) 3),
  List.forall_mem_cons.mpr ⟨(⟨by decide, rfl, 10, (r_23 _ (List.mem_of_getElem? (i := 21) rfl)), tw_t225, tw_t55, tw_t4⟩ : sm_F 23 9 (.new 3) 3),
  List.forall_mem_cons.mpr ⟨(⟨rfl, mf_4, tw_t57, rfl, rfl, 31, (r_23 _ (List.mem_of_getElem? (i := 22) rfl)), Or.inl tw_t226⟩ : sm_F 23 17 (.invokespecial 4) 3),
  List.forall_mem_cons.mpr ⟨(⟨rfl, mf_15, tw_t218, 47, (r_23 _ (List.mem_of_getElem? (i := 23) rfl)), Or.inl tw_t364⟩ : sm_F 23 23 (.invokestatic 15) 3),
  List.forall_mem_cons.mpr ⟨(⟨rfl, mf_17, tw_t311, tw_t312, rfl, by decide, 51, (r_23 _ (List.mem_of_getElem? (i := 24) rfl)), Or.inl tw_t365⟩ : sm_F 23 32 (.invokevirtual 17) 3),
  List.forall_mem_cons.mpr ⟨(⟨rfl, mf_10, tw_t193, tw_t194, rfl, by decide, 21, (r_23 _ (List.mem_of_getElem? (i := 25) rfl)), Or.inl tw_t220⟩ : sm_F 23 36 (.invokevirtual 10) 3),
  fun _ h => absurd h List.not_mem_nil⟩⟩⟩⟩⟩⟩⟩
theorem f_23 : ∀ q ∈ cd_23, sm_F 23 q.1 q.2.2.2 q.2.1 := List.forall_mem_append.mpr ⟨fs_23, fl_23⟩
theorem r_24 : ∀ q ∈ cd_24, decode (mB 24) q.1 = .ok (q.2.2.1, q.2.1) := sm_all (by decide +kernel)
theorem fs_24 : ∀ q ∈ sp_24, sm_F 24 q.1 q.2.2.2 q.2.1 := sm_rsl (fun q h => r_24 q (List.mem_append_left _ h)) (by decide +kernel)
theorem fl_24 : ∀ q ∈ lk_24, sm_F 24 q.1 q.2.2.2 q.2.1 := List.forall_mem_cons.mpr ⟨(⟨rfl, mf_148, tw_t243, tw_t244, rfl, by decide, 25, (r_24 _ (List.mem_of_getElem? (i := 22) rfl)), Or.inl tw_t343⟩ : sm_F 24 1 (.invokevirtual 148) 3),
  List.forall_mem_cons.mpr ⟨(⟨by decide, by decide, rfl, 15, (r_24 _ (List.mem_of_getElem? (i := 23) rfl)), Or.inl tw_t32⟩ : sm_F 24 5 (.getfield 33) 3),
  List.forall_mem_cons.mpr ⟨(⟨by decide, by decide, rfl, 15, (r_24 _ (List.mem_of_getElem? (i := 24) rfl)), Or.inl tw_t32⟩ : sm_F 24 17 (.getfield 33) 3),
  List.forall_mem_cons.mpr ⟨(⟨rfl, mf_150, tw_t345, tw_t346, rfl, by decide, 30, (r_24 _ (List.mem_of_getElem? (i := 25) rfl)), Or.inl tw_t344⟩ : sm_F 24 25 (.invokevirtual 150) 3),
  List.forall_mem_cons.mpr ⟨(⟨by decide, by decide, rfl, 9, (r_24 _ (List.mem_of_getElem? (i := 26) rfl)), Or.inl tw_t31⟩ : sm_F 24 29 (.getfield 32) 3),
  fun _ h => absurd h List.not_mem_nil⟩⟩⟩⟩⟩
theorem f_24 : ∀ q ∈ cd_24, sm_F 24 q.1 q.2.2.2 q.2.1 := List.forall_mem_append.mpr ⟨fs_24, fl_24⟩
theorem r_25 : ∀ q ∈ cd_25, decode (mB 25) q.1 = .ok (q.2.2.1, q.2.1) := sm_all (by decide +kernel)
theorem fs_25 : ∀ q ∈ sp_25, sm_F 25 q.1 q.2.2.2 q.2.1 := sm_rsl (fun q h => r_25 q (List.mem_append_left _ h)) (by decide +kernel)
theorem fl_25 : ∀ q ∈ lk_25, sm_F 25 q.1 q.2.2.2 q.2.1 := List.forall_mem_cons.mpr ⟨(⟨by decide, by decide, rfl, 37, (r_25 _ (List.mem_of_getElem? (i := 7) rfl)), Or.inl tw_t160⟩ : sm_F 25 1 (.getfield 3) 3),
  List.forall_mem_cons.mpr ⟨(⟨rfl, mf_26, tw_t371, tw_t372, rfl, by decide, 102, (r_25 _ (List.mem_of_getElem? (i := 8) rfl)), Or.inl tw_t370⟩ : sm_F 25 4 (.invokevirtual 26) 3),
  List.forall_mem_cons.mpr ⟨(⟨rfl, mf_27, tw_t375, tw_t376, rfl, by decide, 106, (r_25 _ (List.mem_of_getElem? (i := 9) rfl)), Or.inl tw_t374⟩ : sm_F 25 8 (.invokevirtual 27) 3),
  List.forall_mem_cons.mpr ⟨(⟨by decide, by decide, rfl, 37, (r_25 _ (List.mem_of_getElem? (i := 10) rfl)), Or.inl tw_t160⟩ : sm_F 25 15 (.getfield 3) 3),
  List.forall_mem_cons.mpr ⟨(⟨rfl, mf_26, tw_t371, tw_t372, rfl, by decide, 102, (r_25 _ (List.mem_of_getElem? (i := 11) rfl)), Or.inl tw_t370⟩ : sm_F 25 18 (.invokevirtual 26) 3),
  List.forall_mem_cons.mpr ⟨(⟨rfl, mf_28, tw_t379, tw_t380, rfl, by decide, 112, (r_25 _ (List.mem_of_getElem? (i := 12) rfl)), Or.inl tw_t378⟩ : sm_F 25 21 (.invokevirtual 28) 3),
  fun _ h => absurd h List.not_mem_nil⟩⟩⟩⟩⟩⟩
theorem f_25 : ∀ q ∈ cd_25, sm_F 25 q.1 q.2.2.2 q.2.1 := List.forall_mem_append.mpr ⟨fs_25, fl_25⟩
theorem r_26 : ∀ q ∈ cd_26, decode (mB 26) q.1 = .ok (q.2.2.1, q.2.1) := sm_all (by decide +kernel)
theorem fs_26 : ∀ q ∈ sp_26, sm_F 26 q.1 q.2.2.2 q.2.1 := sm_rsl (fun q h => r_26 q (List.mem_append_left _ h)) (by decide +kernel)
theorem fl_26 : ∀ q ∈ lk_26, sm_F 26 q.1 q.2.2.2 q.2.1 := List.forall_mem_cons.mpr ⟨(⟨by decide, by decide, rfl, 12, (r_26 _ (List.mem_of_getElem? (i := 2) rfl)), Or.inl tw_t96⟩ : sm_F 26 1 (.getfield 128) 3),
  fun _ h => absurd h List.not_mem_nil⟩
theorem f_26 : ∀ q ∈ cd_26, sm_F 26 q.1 q.2.2.2 q.2.1 := List.forall_mem_append.mpr ⟨fs_26, fl_26⟩
theorem r_27 : ∀ q ∈ cd_27, decode (mB 27) q.1 = .ok (q.2.2.1, q.2.1) := sm_all (by decide +kernel)
theorem fs_27 : ∀ q ∈ sp_27, sm_F 27 q.1 q.2.2.2 q.2.1 := sm_rsl (fun q h => r_27 q (List.mem_append_left _ h)) (by decide +kernel)
theorem fl_27 : ∀ q ∈ lk_27, sm_F 27 q.1 q.2.2.2 q.2.1 := List.forall_mem_cons.mpr ⟨(⟨by decide, by decide, rfl, 15, (r_27 _ (List.mem_of_getElem? (i := 15) rfl)), Or.inl tw_t83⟩ : sm_F 27 1 (.getfield 161) 3),
  List.forall_mem_cons.mpr ⟨(⟨by decide, by decide, rfl, 9, (r_27 _ (List.mem_of_getElem? (i := 16) rfl)), Or.inl tw_t82⟩ : sm_F 27 12 (.getfield 160) 3),
  List.forall_mem_cons.mpr ⟨(⟨by decide, by decide, rfl, 15, (r_27 _ (List.mem_of_getElem? (i := 17) rfl)), Or.inl tw_t83⟩ : sm_F 27 16 (.getfield 161) 3),
  List.forall_mem_cons.mpr ⟨(⟨by decide, by decide, rfl, 15, (r_27 _ (List.mem_of_getElem? (i := 18) rfl)), Or.inl tw_t83⟩ : sm_F 27 23 (.getfield 161) 3),
  List.forall_mem_cons.mpr ⟨(⟨by decide, by decide, rfl, 15, (r_27 _ (List.mem_of_getElem? (i := 19) rfl)), Or.inl ⟨rfl, Or.inl tw_t83⟩⟩ : sm_F 27 28 (.putfield 161) 3),
  fun _ h => absurd h List.not_mem_nil⟩⟩⟩⟩⟩
theorem f_27 : ∀ q ∈ cd_27, sm_F 27 q.1 q.2.2.2 q.2.1 := List.forall_mem_append.mpr ⟨fs_27, fl_27⟩
theorem r_28 : ∀ q ∈ cd_28, decode (mB 28) q.1 = .ok (q.2.2.1, q.2.1) := sm_all (by decide +kernel)
theorem fs_28 : ∀ q ∈ sp_28, sm_F 28 q.1 q.2.2.2 q.2.1 := sm_rsl (fun q h => r_28 q (List.mem_append_left _ h)) (by decide +kernel)
theorem fl_28 : ∀ q ∈ lk_28, sm_F 28 q.1 q.2.2.2 q.2.1 := List.forall_mem_cons.mpr ⟨(⟨by decide, by decide, rfl, 15, (r_28 _ (List.mem_of_getElem? (i := 2) rfl)), Or.inl tw_t83⟩ : sm_F 28 1 (.getfield 161) 3),
  fun _ h => absurd h List.not_mem_nil⟩
theorem f_28 : ∀ q ∈ cd_28, sm_F 28 q.1 q.2.2.2 q.2.1 := List.forall_mem_append.mpr ⟨fs_28, fl_28⟩
theorem r_29 : ∀ q ∈ cd_29, decode (mB 29) q.1 = .ok (q.2.2.1, q.2.1) := sm_all (by decide +kernel)
theorem fs_29 : ∀ q ∈ sp_29, sm_F 29 q.1 q.2.2.2 q.2.1 := sm_rsl (fun q h => r_29 q (List.mem_append_left _ h)) (by decide +kernel)
theorem fl_29 : ∀ q ∈ lk_29, sm_F 29 q.1 q.2.2.2 q.2.1 := List.forall_mem_cons.mpr ⟨(⟨by decide, by decide, rfl, 37, (r_29 _ (List.mem_of_getElem? (i := 5) rfl)), Or.inl tw_t160⟩ : sm_F 29 1 (.getfield 3) 3),
  List.forall_mem_cons.mpr ⟨(⟨rfl, mf_26, tw_t371, tw_t372, rfl, by decide, 102, (r_29 _ (List.mem_of_getElem? (i := 6) rfl)), Or.inl tw_t370⟩ : sm_F 29 4 (.invokevirtual 26) 3),
  List.forall_mem_cons.mpr ⟨(⟨rfl, mf_28, tw_t379, tw_t380, rfl, by decide, 112, (r_29 _ (List.mem_of_getElem? (i := 7) rfl)), Or.inl tw_t378⟩ : sm_F 29 7 (.invokevirtual 28) 3),
  List.forall_mem_cons.mpr ⟨(⟨by decide, by decide, rfl, 37, (r_29 _ (List.mem_of_getElem? (i := 8) rfl)), Or.inl tw_t160⟩ : sm_F 29 12 (.getfield 3) 3),
  List.forall_mem_cons.mpr ⟨(⟨rfl, mf_26, tw_t371, tw_t372, rfl, by decide, 102, (r_29 _ (List.mem_of_getElem? (i := 9) rfl)), Or.inl tw_t370⟩ : sm_F 29 15 (.invokevirtual 26) 3),
  List.forall_mem_cons.mpr ⟨(⟨rfl, mf_30, tw_t387, tw_t388, rfl, by decide, 113, (r_29 _ (List.mem_of_getElem? (i := 10) rfl)), Or.inl tw_t386⟩ : sm_F 29 18 (.invokevirtual 30) 3),
  fun _ h => absurd h List.not_mem_nil⟩⟩⟩⟩⟩⟩
theorem f_29 : ∀ q ∈ cd_29, sm_F 29 q.1 q.2.2.2 q.2.1 := List.forall_mem_append.mpr ⟨fs_29, fl_29⟩
theorem r_30 : ∀ q ∈ cd_30, decode (mB 30) q.1 = .ok (q.2.2.1, q.2.1) := sm_all (by decide +kernel)
theorem fs_30 : ∀ q ∈ sp_30, sm_F 30 q.1 q.2.2.2 q.2.1 := sm_rsl (fun q h => r_30 q (List.mem_append_left _ h)) (by decide +kernel)
theorem fl_30 : ∀ q ∈ lk_30, sm_F 30 q.1 q.2.2.2 q.2.1 := List.forall_mem_cons.mpr ⟨(⟨by decide, by decide, rfl, 15, (r_30 _ (List.mem_of_getElem? (i := 5) rfl)), Or.inl ⟨rfl, Or.inl tw_t83⟩⟩ : sm_F 30 2 (.putfield 161) 3),
  List.forall_mem_cons.mpr ⟨(⟨by decide, by decide, rfl, 19, (r_30 _ (List.mem_of_getElem? (i := 6) rfl)), Or.inl ⟨rfl, Or.inl tw_t84⟩⟩ : sm_F 30 7 (.putfield 162) 3),
  fun _ h => absurd h List.not_mem_nil⟩⟩
theorem f_30 : ∀ q ∈ cd_30, sm_F 30 q.1 q.2.2.2 q.2.1 := List.forall_mem_append.mpr ⟨fs_30, fl_30⟩
theorem r_31 : ∀ q ∈ cd_31, decode (mB 31) q.1 = .ok (q.2.2.1, q.2.1) := sm_all (by decide +kernel)
theorem fs_31 : ∀ q ∈ sp_31, sm_F 31 q.1 q.2.2.2 q.2.1 := sm_rsl (fun q h => r_31 q (List.mem_append_left _ h)) (by decide +kernel)
theorem fl_31 : ∀ q ∈ lk_31, sm_F 31 q.1 q.2.2.2 q.2.1 := List.forall_mem_cons.mpr ⟨(⟨by decide, by decide, rfl, 53, (r_31 _ (List.mem_of_getElem? (i := 16) rfl)), Or.inl tw_t164⟩ : sm_F 31 1 (.getfield 7) 3),
  List.forall_mem_cons.mpr ⟨(⟨rfl, mf_32, tw_t395, tw_t396, rfl, by decide, 114, (r_31 _ (List.mem_of_getElem? (i := 17) rfl)), Or.inl tw_t394⟩ : sm_F 31 4 (.invokevirtual 32) 3),
  List.forall_mem_cons.mpr ⟨(⟨by decide, by decide, rfl, 37, (r_31 _ (List.mem_of_getElem? (i := 18) rfl)), Or.inl tw_t160⟩ : sm_F 31 14 (.getfield 3) 3),
  List.forall_mem_cons.mpr ⟨(⟨by decide, by decide, rfl, 21, (r_31 _ (List.mem_of_getElem? (i := 19) rfl)), Or.inl tw_t158⟩ : sm_F 31 18 (.getfield 1) 3),
  List.forall_mem_cons.mpr ⟨(⟨by decide, by decide, rfl, 41, (r_31 _ (List.mem_of_getElem? (i := 20) rfl)), Or.inl tw_t161⟩ : sm_F 31 22 (.getfield 4) 3),
  List.forall_mem_cons.mpr ⟨(⟨rfl, mf_33, tw_t399, tw_t400, rfl, by decide, 118, (r_31 _ (List.mem_of_getElem? (i := 21) rfl)), Or.inl tw_t398⟩ : sm_F 31 25 (.invokevirtual 33) 3),
  List.forall_mem_cons.mpr ⟨(⟨by decide, by decide, rfl, 37, (r_31 _ (List.mem_of_getElem? (i := 22) rfl)), Or.inl tw_t160⟩ : sm_F 31 29 (.getfield 3) 3),
  List.forall_mem_cons.mpr ⟨(⟨by decide, by decide, rfl, 30, (r_31 _ (List.mem_of_getElem? (i := 23) rfl)), Or.inl tw_t159⟩ : sm_F 31 33 (.getfield 2) 3),
  List.forall_mem_cons.mpr ⟨(⟨by decide, by decide, rfl, 44, (r_31 _ (List.mem_of_getElem? (i := 24) rfl)), Or.inl tw_t162⟩ : sm_F 31 37 (.getfield 5) 3),
  List.forall_mem_cons.mpr ⟨(⟨rfl, mf_55, tw_t531, tw_t532, rfl, by decide, 122, (r_31 _ (List.mem_of_getElem? (i := 25) rfl)), Or.inl tw_t530⟩ : sm_F 31 40 (.invokevirtual 55) 3),
  List.forall_mem_cons.mpr ⟨(⟨by decide, by decide, rfl, 37, (r_31 _ (List.mem_of_getElem? (i := 26) rfl)), Or.inl tw_t160⟩ : sm_F 31 45 (.getfield 3) 3),
  List.forall_mem_cons.mpr ⟨(⟨rfl, mf_26, tw_t371, tw_t372, rfl, by decide, 102, (r_31 _ (List.mem_of_getElem? (i := 27) rfl)), Or.inl tw_t370⟩ : sm_F 31 48 (.invokevirtual 26) 3),
  List.forall_mem_cons.mpr ⟨(⟨rfl, mf_57, tw_t539, tw_t540, rfl, by decide, 126, (r_31 _ (List.mem_of_getElem? (i := 28) rfl)), Or.inl tw_t538⟩ : sm_F 31 51 (.invokevirtual 57) 3),
  List.forall_mem_cons.mpr ⟨(⟨by decide, by decide, rfl, 57, (r_31 _ (List.mem_of_getElem? (i := 29) rfl)), Or.inl ⟨rfl, Or.inl tw_t166⟩⟩ : sm_F 31 54 (.putfield 9) 3),
  List.forall_mem_cons.mpr ⟨(⟨rfl, mf_58, tw_t544, tw_p8, rfl, by decide, 129, (r_31 _ (List.mem_of_getElem? (i := 30) rfl)), Or.inl tw_t542⟩ : sm_F 31 58 (.invokevirtual 58) 3),
  List.forall_mem_cons.mpr ⟨(⟨rfl, mf_61, tw_t574, tw_p9, rfl, by decide, 132, (r_31 _ (List.mem_of_getElem? (i := 31) rfl)), Or.inl tw_t572⟩ : sm_F 31 63 (.invokevirtual 61) 3),
  fun _ h => absurd h List.not_mem_nil⟩⟩⟩⟩⟩⟩⟩⟩⟩⟩⟩⟩⟩⟩⟩⟩
theorem f_31 : ∀ q ∈ cd_31, sm_F 31 q.1 q.2.2.2 q.2.1 := List.forall_mem_append.mpr ⟨fs_31, fl_31⟩
theorem r_32 : ∀ q ∈ cd_32, decode (mB 32) q.1 = .ok (q.2.2.1, q.2.1) := sm_all (by decide +kernel)
theorem fs_32 : ∀ q ∈ sp_32, sm_F 32 q.1 q.2.2.2 q.2.1 := sm_rsl (fun q h => r_32 q (List.mem_append_left _ h)) (by decide +kernel)
theorem fl_32 : ∀ q ∈ lk_32, sm_F 32 q.1 q.2.2.2 q.2.1 := List.forall_mem_cons.mpr ⟨(⟨by decide, by decide, rfl, 17, (r_32 _ (List.mem_of_getElem? (i := 7) rfl)), Or.inl tw_t112⟩ : sm_F 32 1 (.getfield 193) 3),
  fun _ h => absurd h List.not_mem_nil⟩
theorem f_32 : ∀ q ∈ cd_32, sm_F 32 q.1 q.2.2.2 q.2.1 := List.forall_mem_append.mpr ⟨fs_32, fl_32⟩
theorem r_33 : ∀ q ∈ cd_33, decode (mB 33) q.1 = .ok (q.2.2.1, q.2.1) := sm_all (by decide +kernel)
theorem fs_33 : ∀ q ∈ sp_33, sm_F 33 q.1 q.2.2.2 q.2.1 := sm_rsl (fun q h => r_33 q (List.mem_append_left _ h)) (by decide +kernel)
theorem fl_33 : ∀ q ∈ lk_33, sm_F 33 q.1 q.2.2.2 q.2.1 := List.forall_mem_cons.mpr ⟨(⟨by decide, by decide, rfl, 12, (r_33 _ (List.mem_of_getElem? (i := 10) rfl)), Or.inl tw_t96⟩ : sm_F 33 1 (.getfield 128) 3),
  List.forall_mem_cons.mpr ⟨(⟨rfl, mf_34, tw_t403, tw_t404, rfl, by decide, 25, (r_33 _ (List.mem_of_getElem? (i := 11) rfl)), Or.inl tw_t402⟩ : sm_F 33 4 (.invokevirtual 34) 3),
  List.forall_mem_cons.mpr ⟨(⟨rfl, mf_18, tw_t315, tw_t316, rfl, by decide, 28, (r_33 _ (List.mem_of_getElem? (i := 12) rfl)), Or.inl tw_t406⟩ : sm_F 33 8 (.invokevirtual 18) 3),
  List.forall_mem_cons.mpr ⟨(⟨33, (r_33 _ (List.mem_of_getElem? (i := 13) rfl)), rfl, by decide +kernel⟩ : ∃ x : Nat, decode (mB 33) 12 = .ok (.ldc x, 2) ∧ 2 = 2 ∧ (((mN 33).cls, x), 4) ∈ sKl),
  List.forall_mem_cons.mpr ⟨(⟨rfl, mf_35, tw_t409, tw_t410, rfl, by decide, 35, (r_33 _ (List.mem_of_getElem? (i := 14) rfl)), Or.inl tw_t408⟩ : sm_F 33 14 (.invokevirtual 35) 3),
  List.forall_mem_cons.mpr ⟨(⟨rfl, mf_36, tw_t415, tw_p1, rfl, by decide, 39, (r_33 _ (List.mem_of_getElem? (i := 15) rfl)), Or.inl tw_t413⟩ : sm_F 33 21 (.invokevirtual 36) 3),
  List.forall_mem_cons.mpr ⟨(⟨rfl, mf_11, tw_t197, tw_t198, rfl, by decide, 43, (r_33 _ (List.mem_of_getElem? (i := 16) rfl)), Or.inl tw_t471⟩ : sm_F 33 27 (.invokevirtual 11) 3),
  fun _ h => absurd h List.not_mem_nil⟩⟩⟩⟩⟩⟩⟩
theorem f_33 : ∀ q ∈ cd_33, sm_F 33 q.1 q.2.2.2 q.2.1 := List.forall_mem_append.mpr ⟨fs_33, fl_33⟩
theorem r_34 : ∀ q ∈ cd_34, decode (mB 34) q.1 = .ok (q.2.2.1, q.2.1) := sm_all (by decide +kernel)
theorem fs_34 : ∀ q ∈ sp_34, sm_F 34 q.1 q.2.2.2 q.2.1 := sm_rsl (fun q h => r_34 q (List.mem_append_left _ h)) (by decide +kernel)
theorem fl_34 : ∀ q ∈ lk_34, sm_F 34 q.1 q.2.2.2 q.2.1 := List.forall_mem_cons.mpr ⟨(⟨by decide, by decide, rfl, 19, (r_34 _ (List.mem_of_getElem? (i := 3) rfl)), Or.inl ⟨rfl, Or.inl tw_t84⟩⟩ : sm_F 34 2 (.putfield 162) 3),
  fun _ h => absurd h List.not_mem_nil⟩
theorem f_34 : ∀ q ∈ cd_34, sm_F 34 q.1 q.2.2.2 q.2.1 := List.forall_mem_append.mpr ⟨fs_34, fl_34⟩
theorem r_35 : ∀ q ∈ cd_35, decode (mB 35) q.1 = .ok (q.2.2.1, q.2.1) := sm_all (by decide +kernel)
theorem fs_35 : ∀ q ∈ sp_35, sm_F 35 q.1 q.2.2.2 q.2.1 := sm_rsl (fun q h => r_35 q (List.mem_append_left _ h)) (by decide +kernel)
theorem fl_35 : ∀ q ∈ lk_35, sm_F 35 q.1 q.2.2.2 q.2.1 := List.forall_mem_cons.mpr ⟨(⟨rfl, mf_148, tw_t243, tw_t244, rfl, by decide, 25, (r_35 _ (List.mem_of_getElem? (i := 11) rfl)), Or.inl tw_t343⟩ : sm_F 35 4 (.invokevirtual 148) 3),
  List.forall_mem_cons.mpr ⟨(⟨rfl, mf_150, tw_t345, tw_t346, rfl, by decide, 30, (r_35 _ (List.mem_of_getElem? (i := 12) rfl)), Or.inl tw_t344⟩ : sm_F 35 13 (.invokevirtual 150) 3),
  List.forall_mem_cons.mpr ⟨(⟨rfl, mf_11, tw_t197, tw_t198, rfl, by decide, 34, (r_35 _ (List.mem_of_getElem? (i := 13) rfl)), Or.inl tw_t412⟩ : sm_F 35 16 (.invokevirtual 11) 3),
  fun _ h => absurd h List.not_mem_nil⟩⟩⟩
theorem f_35 : ∀ q ∈ cd_35, sm_F 35 q.1 q.2.2.2 q.2.1 := List.forall_mem_append.mpr ⟨fs_35, fl_35⟩
theorem r_36 : ∀ q ∈ cd_36, decode (mB 36) q.1 = .ok (q.2.2.1, q.2.1) := sm_all (by decide +kernel)
theorem fs_36 : ∀ q ∈ sp_36, sm_F 36 q.1 q.2.2.2 q.2.1 := sm_rsl (fun q h => r_36 q (List.mem_append_left _ h)) (by decide +kernel)
theorem fl_36 : ∀ q ∈ lk_36, sm_F 36 q.1 q.2.2.2 q.2.1 := List.forall_mem_cons.mpr ⟨(⟨rfl, mf_20, tw_t323, tw_t324, rfl, by decide, 56, (r_36 _ (List.mem_of_getElem? (i := 16) rfl)), Or.inl tw_t417⟩ : sm_F 36 6 (.invokevirtual 20) 3),
  List.forall_mem_cons.mpr ⟨(⟨rfl, mf_37, tw_t419, 60, (r_36 _ (List.mem_of_getElem? (i := 17) rfl)), Or.inl tw_t418⟩ : sm_F 36 15 (.invokestatic 37) 3),
  List.forall_mem_cons.mpr ⟨(⟨rfl, mf_38, tw_t423, tw_t424, rfl, by decide, 64, (r_36 _ (List.mem_of_getElem? (i := 18) rfl)), Or.inl tw_t422⟩ : sm_F 36 22 (.invokevirtual 38) 3),
  List.forall_mem_cons.mpr ⟨(⟨rfl, mf_39, tw_t428, tw_p2, rfl, by decide, 52, (r_36 _ (List.mem_of_getElem? (i := 19) rfl)), Or.inl tw_t426⟩ : sm_F 36 28 (.invokevirtual 39) 3),
  fun _ h => absurd h List.not_mem_nil⟩⟩⟩⟩
theorem f_36 : ∀ q ∈ cd_36, sm_F 36 q.1 q.2.2.2 q.2.1 := List.forall_mem_append.mpr ⟨fs_36, fl_36⟩
theorem r_37 : ∀ q ∈ cd_37, decode (mB 37) q.1 = .ok (q.2.2.1, q.2.1) := sm_all (by decide +kernel)
theorem fs_37 : ∀ q ∈ sp_37, sm_F 37 q.1 q.2.2.2 q.2.1 := sm_rsl (fun q h => r_37 q (List.mem_append_left _ h)) (by decide +kernel)
theorem fl_37 : ∀ q ∈ lk_37, sm_F 37 q.1 q.2.2.2 q.2.1 := List.forall_mem_cons.mpr ⟨(⟨171, (r_37 _ (List.mem_of_getElem? (i := 4) rfl)), rfl, by decide +kernel⟩ : ∃ x : Nat, decode (mB 37) 5 = .ok (.ldc x, 2) ∧ 2 = 2 ∧ (((mN 37).cls, x), 6) ∈ sKl),
  List.forall_mem_cons.mpr ⟨(⟨rfl, mf_35, tw_t409, tw_t410, rfl, by decide, 35, (r_37 _ (List.mem_of_getElem? (i := 5) rfl)), Or.inl tw_t408⟩ : sm_F 37 7 (.invokevirtual 35) 3),
  fun _ h => absurd h List.not_mem_nil⟩⟩
theorem f_37 : ∀ q ∈ cd_37, sm_F 37 q.1 q.2.2.2 q.2.1 := List.forall_mem_append.mpr ⟨fs_37, fl_37⟩
theorem r_38 : ∀ q ∈ cd_38, decode (mB 38) q.1 = .ok (q.2.2.1, q.2.1) := sm_all (by decide +kernel)
theorem fs_38 : ∀ q ∈ sp_38, sm_F 38 q.1 q.2.2.2 q.2.1 := sm_rsl (fun q h => r_38 q (List.mem_append_left _ h)) (by decide +kernel)
theorem fl_38 : ∀ q ∈ lk_38, sm_F 38 q.1 q.2.2.2 q.2.1 := List.forall_mem_cons.mpr ⟨(⟨by decide, by decide, rfl, 11, (r_38 _ (List.mem_of_getElem? (i := 4) rfl)), Or.inl tw_t47⟩ : sm_F 38 1 (.getfield 64) 3),
  fun _ h => absurd h List.not_mem_nil⟩
theorem f_38 : ∀ q ∈ cd_38, sm_F 38 q.1 q.2.2.2 q.2.1 := List.forall_mem_append.mpr ⟨fs_38, fl_38⟩
theorem r_39 : ∀ q ∈ cd_39, decode (mB 39) q.1 = .ok (q.2.2.1, q.2.1) := sm_all (by decide +kernel)
theorem fs_39 : ∀ q ∈ sp_39, sm_F 39 q.1 q.2.2.2 q.2.1 := sm_rsl (fun q h => r_39 q (List.mem_append_left _ h)) (by decide +kernel)
theorem fl_39 : ∀ q ∈ lk_39, sm_F 39 q.1 q.2.2.2 q.2.1 := List.forall_mem_cons.mpr ⟨(⟨rfl, mf_10, tw_t193, tw_t194, rfl, by decide, 68, (r_39 _ (List.mem_of_getElem? (i := 69) rfl)), Or.inl tw_t430⟩ : sm_F 39 2 (.invokevirtual 10) 3),
  List.forall_mem_cons.mpr ⟨(⟨by decide, by decide, rfl, 12, (r_39 _ (List.mem_of_getElem? (i := 70) rfl)), Or.inl tw_t96⟩ : sm_F 39 12 (.getfield 128) 3),
  List.forall_mem_cons.mpr ⟨(⟨rfl, mf_40, tw_t432, tw_t433, rfl, by decide, 71, (r_39 _ (List.mem_of_getElem? (i := 71) rfl)), Or.inl tw_t431⟩ : sm_F 39 15 (.invokevirtual 40) 3),
  List.forall_mem_cons.mpr ⟨(⟨rfl, mf_41, tw_t436, tw_t437, rfl, by decide, 75, (r_39 _ (List.mem_of_getElem? (i := 72) rfl)), Or.inl tw_t435⟩ : sm_F 39 24 (.invokevirtual 41) 3),
  List.forall_mem_cons.mpr ⟨(⟨rfl, mf_42, tw_t441, tw_p3, rfl, by decide, 78, (r_39 _ (List.mem_of_getElem? (i := 73) rfl)), Or.inl tw_t439⟩ : sm_F 39 36 (.invokevirtual 42) 3),
  List.forall_mem_cons.mpr ⟨(⟨rfl, mf_46, tw_t473, tw_t474, rfl, by decide, 81, (r_39 _ (List.mem_of_getElem? (i := 74) rfl)), Or.inl tw_t472⟩ : sm_F 39 41 (.invokevirtual 46) 3),
  List.forall_mem_cons.mpr ⟨(⟨by decide, by decide, rfl, 12, (r_39 _ (List.mem_of_getElem? (i := 75) rfl)), Or.inl tw_t96⟩ : sm_F 39 163 (.getfield 128) 3),
  List.forall_mem_cons.mpr ⟨(⟨rfl, mf_43, tw_t444, tw_t445, rfl, by decide, 84, (r_39 _ (List.mem_of_getElem? (i := 76) rfl)), Or.inl tw_t443⟩ : sm_F 39 166 (.invokevirtual 43) 3),
  List.forall_mem_cons.mpr ⟨(⟨87, (r_39 _ (List.mem_of_getElem? (i := 77) rfl)), rfl, by decide +kernel⟩ : ∃ x : Nat, decode (mB 39) 174 = .ok (.ldc x, 2) ∧ 2 = 2 ∧ (((mN 39).cls, x), 34) ∈ sKl),
  List.forall_mem_cons.mpr ⟨(⟨89, (r_39 _ (List.mem_of_getElem? (i := 78) rfl)), rfl, by decide +kernel⟩ : ∃ x : Nat, decode (mB 39) 179 = .ok (.ldc x, 2) ∧ 2 = 2 ∧ (((mN 39).cls, x), 36) ∈ sKl),
  List.forall_mem_cons.mpr ⟨(⟨rfl, mf_35, tw_t409, tw_t410, rfl, by decide, 35, (r_39 _ (List.mem_of_getElem? (i := 79) rfl)), Or.inl tw_t408⟩ : sm_F 39 181 (.invokevirtual 35) 3),
  List.forall_mem_cons.mpr ⟨(⟨91, (r_39 _ (List.mem_of_getElem? (i := 80) rfl)), rfl, by decide +kernel⟩ : ∃ x : Nat, decode (mB 39) 189 = .ok (.ldc x, 2) ∧ 2 = 2 ∧ (((mN 39).cls, x), 38) ∈ sKl),
  List.forall_mem_cons.mpr ⟨(⟨rfl, mf_35, tw_t409, tw_t410, rfl, by decide, 35, (r_39 _ (List.mem_of_getElem? (i := 81) rfl)), Or.inl tw_t408⟩ : sm_F 39 191 (.invokevirtual 35) 3),
  List.forall_mem_cons.mpr ⟨(⟨by decide, by decide, rfl, 12, (r_39 _ (List.mem_of_getElem? (i := 82) rfl)), Or.inl tw_t96⟩ : sm_F 39 197 (.getfield 128) 3),
  List.forall_mem_cons.mpr ⟨(⟨rfl, mf_43, tw_t444, tw_t445, rfl, by decide, 84, (r_39 _ (List.mem_of_getElem? (i := 83) rfl)), Or.inl tw_t443⟩ : sm_F 39 200 (.invokevirtual 43) 3),
  List.forall_mem_cons.mpr ⟨(⟨rfl, mf_47, tw_t480, tw_t481, rfl, by decide, 93, (r_39 _ (List.mem_of_getElem? (i := 84) rfl)), Or.inl tw_t479⟩ : sm_F 39 205 (.invokevirtual 47) 3),
  List.forall_mem_cons.mpr ⟨(⟨97, (r_39 _ (List.mem_of_getElem? (i := 85) rfl)), rfl, by decide +kernel⟩ : ∃ x : Nat, decode (mB 39) 213 = .ok (.ldc x, 2) ∧ 2 = 2 ∧ (((mN 39).cls, x), 40) ∈ sKl),
  List.forall_mem_cons.mpr ⟨(⟨rfl, mf_35, tw_t409, tw_t410, rfl, by decide, 35, (r_39 _ (List.mem_of_getElem? (i := 86) rfl)), Or.inl tw_t408⟩ : sm_F 39 215 (.invokevirtual 35) 3),
  List.forall_mem_cons.mpr ⟨(⟨by decide, by decide, rfl, 12, (r_39 _ (List.mem_of_getElem? (i := 87) rfl)), Or.inl tw_t96⟩ : sm_F 39 221 (.getfield 128) 3),
  List.forall_mem_cons.mpr ⟨(⟨rfl, mf_43, tw_t444, tw_t445, rfl, by decide, 84, (r_39 _ (List.mem_of_getElem? (i := 88) rfl)), Or.inl tw_t443⟩ : sm_F 39 224 (.invokevirtual 43) 3),
  List.forall_mem_cons.mpr ⟨(⟨rfl, mf_47, tw_t480, tw_t481, rfl, by decide, 93, (r_39 _ (List.mem_of_getElem? (i := 89) rfl)), Or.inl tw_t479⟩ : sm_F 39 229 (.invokevirtual 47) 3),
  List.forall_mem_cons.mpr ⟨(⟨rfl, mf_11, tw_t197, tw_t198, rfl, by decide, 43, (r_39 _ (List.mem_of_getElem? (i := 90) rfl)), Or.inl tw_t471⟩ : sm_F 39 239 (.invokevirtual 11) 3),
  List.forall_mem_cons.mpr ⟨(⟨by decide, by decide, rfl, 12, (r_39 _ (List.mem_of_getElem? (i := 91) rfl)), Or.inl tw_t96⟩ : sm_F 39 243 (.getfield 128) 3),
  List.forall_mem_cons.mpr ⟨(⟨rfl, mf_43, tw_t444, tw_t445, rfl, by decide, 84, (r_39 _ (List.mem_of_getElem? (i := 92) rfl)), Or.inl tw_t443⟩ : sm_F 39 246 (.invokevirtual 43) 3),
  List.forall_mem_cons.mpr ⟨(⟨rfl, mf_48, tw_t491, 99, (r_39 _ (List.mem_of_getElem? (i := 93) rfl)), Or.inl tw_t490⟩ : sm_F 39 253 (.invokestatic 48) 3),
  List.forall_mem_cons.mpr ⟨(⟨rfl, mf_11, tw_t197, tw_t198, rfl, by decide, 43, (r_39 _ (List.mem_of_getElem? (i := 94) rfl)), Or.inl tw_t471⟩ : sm_F 39 260 (.invokevirtual 11) 3),
  List.forall_mem_cons.mpr ⟨(⟨by decide, by decide, rfl, 12, (r_39 _ (List.mem_of_getElem? (i := 95) rfl)), Or.inl tw_t96⟩ : sm_F 39 267 (.getfield 128) 3),
  List.forall_mem_cons.mpr ⟨(⟨rfl, mf_43, tw_t444, tw_t445, rfl, by decide, 84, (r_39 _ (List.mem_of_getElem? (i := 96) rfl)), Or.inl tw_t443⟩ : sm_F 39 270 (.invokevirtual 43) 3),
  List.forall_mem_cons.mpr ⟨(⟨rfl, mf_49, tw_t501, 103, (r_39 _ (List.mem_of_getElem? (i := 97) rfl)), Or.inl tw_t500⟩ : sm_F 39 275 (.invokestatic 49) 3),
  List.forall_mem_cons.mpr ⟨(⟨rfl, mf_50, tw_t507, tw_p5, rfl, by decide, 106, (r_39 _ (List.mem_of_getElem? (i := 98) rfl)), Or.inl tw_t505⟩ : sm_F 39 284 (.invokevirtual 50) 3),
  List.forall_mem_cons.mpr ⟨(⟨by decide, by decide, rfl, 12, (r_39 _ (List.mem_of_getElem? (i := 99) rfl)), Or.inl tw_t96⟩ : sm_F 39 291 (.getfield 128) 3),
  List.forall_mem_cons.mpr ⟨(⟨rfl, mf_43, tw_t444, tw_t445, rfl, by decide, 84, (r_39 _ (List.mem_of_getElem? (i := 100) rfl)), Or.inl tw_t443⟩ : sm_F 39 294 (.invokevirtual 43) 3),
  List.forall_mem_cons.mpr ⟨(⟨rfl, mf_51, tw_t513, 110, (r_39 _ (List.mem_of_getElem? (i := 101) rfl)), Or.inl tw_t512⟩ : sm_F 39 301 (.invokestatic 51) 3),
  List.forall_mem_cons.mpr ⟨(⟨rfl, mf_11, tw_t197, tw_t198, rfl, by decide, 43, (r_39 _ (List.mem_of_getElem? (i := 102) rfl)), Or.inl tw_t471⟩ : sm_F 39 308 (.invokevirtual 11) 3),
  List.forall_mem_cons.mpr ⟨(⟨by decide, by decide, rfl, 12, (r_39 _ (List.mem_of_getElem? (i := 103) rfl)), Or.inl tw_t96⟩ : sm_F 39 315 (.getfield 128) 3),
  List.forall_mem_cons.mpr ⟨(⟨rfl, mf_43, tw_t444, tw_t445, rfl, by decide, 84, (r_39 _ (List.mem_of_getElem? (i := 104) rfl)), Or.inl tw_t443⟩ : sm_F 39 318 (.invokevirtual 43) 3),
  List.forall_mem_cons.mpr ⟨(⟨rfl, mf_51, tw_t513, 110, (r_39 _ (List.mem_of_getElem? (i := 105) rfl)), Or.inl tw_t512⟩ : sm_F 39 324 (.invokestatic 51) 3),
  List.forall_mem_cons.mpr ⟨(⟨rfl, mf_52, tw_t519, tw_p6, rfl, by decide, 114, (r_39 _ (List.mem_of_getElem? (i := 106) rfl)), Or.inl tw_t517⟩ : sm_F 39 333 (.invokevirtual 52) 3),
  List.forall_mem_cons.mpr ⟨(⟨rfl, mf_53, tw_t522, tw_t523, rfl, by decide, 117, (r_39 _ (List.mem_of_getElem? (i := 107) rfl)), Or.inl tw_t521⟩ : sm_F 39 341 (.invokevirtual 53) 3),
  List.forall_mem_cons.mpr ⟨(⟨rfl, mf_54, tw_t527, tw_p7, rfl, by decide, 120, (r_39 _ (List.mem_of_getElem? (i := 108) rfl)), Or.inl tw_t525⟩ : sm_F 39 347 (.invokevirtual 54) 3),
  fun _ h => absurd h List.not_mem_nil⟩⟩⟩⟩⟩⟩⟩⟩⟩⟩⟩⟩⟩⟩⟩⟩⟩⟩⟩⟩⟩⟩⟩⟩⟩⟩⟩⟩⟩⟩⟩⟩⟩⟩⟩⟩⟩⟩⟩⟩
theorem f_39 : ∀ q ∈ cd_39, sm_F 39 q.1 q.2.2.2 q.2.1 := List.forall_mem_append.mpr ⟨fs_39, fl_39⟩
theorem r_40 : ∀ q ∈ cd_40, decode (mB 40) q.1 = .ok (q.2.2.1, q.2.1) := sm_all (by decide +kernel)
theorem fs_40 : ∀ q ∈ sp_40, sm_F 40 q.1 q.2.2.2 q.2.1 := sm_rsl (fun q h => r_40 q (List.mem_append_left _ h)) (by decide +kernel)
theorem fl_40 : ∀ q ∈ lk_40, sm_F 40 q.1 q.2.2.2 q.2.1 := List.forall_mem_cons.mpr ⟨(⟨by decide, by decide, rfl, 19, (r_40 _ (List.mem_of_getElem? (i := 7) rfl)), Or.inl tw_t84⟩ : sm_F 40 1 (.getfield 162) 3),
  List.forall_mem_cons.mpr ⟨(⟨by decide, by decide, rfl, 15, (r_40 _ (List.mem_of_getElem? (i := 8) rfl)), Or.inl tw_t83⟩ : sm_F 40 5 (.getfield 161) 3),
  fun _ h => absurd h List.not_mem_nil⟩⟩
theorem f_40 : ∀ q ∈ cd_40, sm_F 40 q.1 q.2.2.2 q.2.1 := List.forall_mem_append.mpr ⟨fs_40, fl_40⟩
theorem r_41 : ∀ q ∈ cd_41, decode (mB 41) q.1 = .ok (q.2.2.1, q.2.1) := sm_all (by decide +kernel)
theorem fs_41 : ∀ q ∈ sp_41, sm_F 41 q.1 q.2.2.2 q.2.1 := sm_rsl (fun q h => r_41 q (List.mem_append_left _ h)) (by decide +kernel)
theorem fl_41 : ∀ q ∈ lk_41, sm_F 41 q.1 q.2.2.2 q.2.1 := List.forall_mem_cons.mpr ⟨(⟨by decide, by decide, rfl, 9, (r_41 _ (List.mem_of_getElem? (i := 2) rfl)), Or.inl tw_t60⟩ : sm_F 41 1 (.getfield 96) 3),
  fun _ h => absurd h List.not_mem_nil⟩
theorem f_41 : ∀ q ∈ cd_41, sm_F 41 q.1 q.2.2.2 q.2.1 := List.forall_mem_append.mpr ⟨fs_41, fl_41⟩
theorem r_42 : ∀ q ∈ cd_42, decode (mB 42) q.1 = .ok (q.2.2.1, q.2.1) := sm_all (by decide +kernel)
theorem fs_42 : ∀ q ∈ sp_42, sm_F 42 q.1 q.2.2.2 q.2.1 := sm_rsl (fun q h => r_42 q (List.mem_append_left _ h)) (by decide +kernel)
theorem fl_42 : ∀ q ∈ lk_42, sm_F 42 q.1 q.2.2.2 q.2.1 := List.forall_mem_cons.mpr ⟨(⟨by decide, by decide, rfl, 12, (r_42 _ (List.mem_of_getElem? (i := 36) rfl)), Or.inl tw_t96⟩ : sm_F 42 1 (.getfield 128) 3),
  List.forall_mem_cons.mpr ⟨(⟨rfl, mf_43, tw_t444, tw_t445, rfl, by decide, 84, (r_42 _ (List.mem_of_getElem? (i := 37) rfl)), Or.inl tw_t443⟩ : sm_F 42 4 (.invokevirtual 43) 3),
  List.forall_mem_cons.mpr ⟨(⟨124, (r_42 _ (List.mem_of_getElem? (i := 38) rfl)), rfl, by decide +kernel⟩ : ∃ x : Nat, decode (mB 42) 16 = .ok (.ldc x, 2) ∧ 2 = 2 ∧ (((mN 42).cls, x), 8) ∈ sKl),
  List.forall_mem_cons.mpr ⟨(⟨rfl, mf_35, tw_t409, tw_t410, rfl, by decide, 35, (r_42 _ (List.mem_of_getElem? (i := 39) rfl)), Or.inl tw_t408⟩ : sm_F 42 18 (.invokevirtual 35) 3),
  List.forall_mem_cons.mpr ⟨(⟨126, (r_42 _ (List.mem_of_getElem? (i := 40) rfl)), rfl, by decide +kernel⟩ : ∃ x : Nat, decode (mB 42) 28 = .ok (.ldc x, 2) ∧ 2 = 2 ∧ (((mN 42).cls, x), 10) ∈ sKl),
  List.forall_mem_cons.mpr ⟨(⟨rfl, mf_35, tw_t409, tw_t410, rfl, by decide, 35, (r_42 _ (List.mem_of_getElem? (i := 41) rfl)), Or.inl tw_t408⟩ : sm_F 42 30 (.invokevirtual 35) 3),
  List.forall_mem_cons.mpr ⟨(⟨rfl, mf_44, tw_t451, tw_t452, rfl, by decide, 128, (r_42 _ (List.mem_of_getElem? (i := 42) rfl)), Or.inl tw_t450⟩ : sm_F 42 36 (.invokevirtual 44) 3),
  List.forall_mem_cons.mpr ⟨(⟨rfl, mf_11, tw_t197, tw_t198, rfl, by decide, 43, (r_42 _ (List.mem_of_getElem? (i := 43) rfl)), Or.inl tw_t471⟩ : sm_F 42 43 (.invokevirtual 11) 3),
  List.forall_mem_cons.mpr ⟨(⟨rfl, mf_11, tw_t197, tw_t198, rfl, by decide, 43, (r_42 _ (List.mem_of_getElem? (i := 44) rfl)), Or.inl tw_t471⟩ : sm_F 42 50 (.invokevirtual 11) 3),
  List.forall_mem_cons.mpr ⟨(⟨rfl, mf_37, tw_t419, 60, (r_42 _ (List.mem_of_getElem? (i := 45) rfl)), Or.inl tw_t418⟩ : sm_F 42 69 (.invokestatic 37) 3),
  List.forall_mem_cons.mpr ⟨(⟨rfl, mf_39, tw_t428, tw_p2, rfl, by decide, 52, (r_42 _ (List.mem_of_getElem? (i := 46) rfl)), Or.inl tw_t426⟩ : sm_F 42 80 (.invokevirtual 39) 3),
  List.forall_mem_cons.mpr ⟨(⟨rfl, mf_11, tw_t197, tw_t198, rfl, by decide, 43, (r_42 _ (List.mem_of_getElem? (i := 47) rfl)), Or.inl tw_t471⟩ : sm_F 42 93 (.invokevirtual 11) 3),
  fun _ h => absurd h List.not_mem_nil⟩⟩⟩⟩⟩⟩⟩⟩⟩⟩⟩⟩
theorem f_42 : ∀ q ∈ cd_42, sm_F 42 q.1 q.2.2.2 q.2.1 := List.forall_mem_append.mpr ⟨fs_42, fl_42⟩
theorem r_43 : ∀ q ∈ cd_43, decode (mB 43) q.1 = .ok (q.2.2.1, q.2.1) := sm_all (by decide +kernel)
theorem fs_43 : ∀ q ∈ sp_43, sm_F 43 q.1 q.2.2.2 q.2.1 := sm_rsl (fun q h => r_43 q (List.mem_append_left _ h)) (by decide +kernel)
theorem fl_43 : ∀ q ∈ lk_43, sm_F 43 q.1 q.2.2.2 q.2.1 := List.forall_mem_cons.mpr ⟨(⟨rfl, mf_40, tw_t432, tw_t433, rfl, by decide, 22, (r_43 _ (List.mem_of_getElem? (i := 14) rfl)), Or.inl tw_t447⟩ : sm_F 43 1 (.invokevirtual 40) 3),
  List.forall_mem_cons.mpr ⟨(⟨by decide, by decide, rfl, 19, (r_43 _ (List.mem_of_getElem? (i := 15) rfl)), Or.inl tw_t84⟩ : sm_F 43 11 (.getfield 162) 3),
  List.forall_mem_cons.mpr ⟨(⟨by decide, by decide, rfl, 19, (r_43 _ (List.mem_of_getElem? (i := 16) rfl)), Or.inl ⟨rfl, Or.inl tw_t84⟩⟩ : sm_F 43 16 (.putfield 162) 3),
  List.forall_mem_cons.mpr ⟨(⟨by decide, by decide, rfl, 9, (r_43 _ (List.mem_of_getElem? (i := 17) rfl)), Or.inl tw_t82⟩ : sm_F 43 20 (.getfield 160) 3),
  List.forall_mem_cons.mpr ⟨(⟨by decide, by decide, rfl, 19, (r_43 _ (List.mem_of_getElem? (i := 18) rfl)), Or.inl tw_t84⟩ : sm_F 43 24 (.getfield 162) 3),
  fun _ h => absurd h List.not_mem_nil⟩⟩⟩⟩⟩
theorem f_43 : ∀ q ∈ cd_43, sm_F 43 q.1 q.2.2.2 q.2.1 := List.forall_mem_append.mpr ⟨fs_43, fl_43⟩
theorem r_44 : ∀ q ∈ cd_44, decode (mB 44) q.1 = .ok (q.2.2.1, q.2.1) := sm_all (by decide +kernel)
theorem fs_44 : ∀ q ∈ sp_44, sm_F 44 q.1 q.2.2.2 q.2.1 := sm_rsl (fun q h => r_44 q (List.mem_append_left _ h)) (by decide +kernel)
theorem fl_44 : ∀ q ∈ lk_44, sm_F 44 q.1 q.2.2.2 q.2.1 := List.forall_mem_cons.mpr ⟨(⟨rfl, mf_45, tw_t456, tw_p4, rfl, by decide, 54, (r_44 _ (List.mem_of_getElem? (i := 18) rfl)), Or.inl tw_t454⟩ : sm_F 44 2 (.invokevirtual 45) 3),
  List.forall_mem_cons.mpr ⟨(⟨rfl, mf_35, tw_t409, tw_t410, rfl, by decide, 58, (r_44 _ (List.mem_of_getElem? (i := 19) rfl)), Or.inl tw_t468⟩ : sm_F 44 5 (.invokevirtual 35) 3),
  List.forall_mem_cons.mpr ⟨(⟨by decide, by decide, rfl, 15, (r_44 _ (List.mem_of_getElem? (i := 20) rfl)), Or.inl tw_t61⟩ : sm_F 44 9 (.getfield 97) 3),
  List.forall_mem_cons.mpr ⟨(⟨by decide, by decide, rfl, 18, (r_44 _ (List.mem_of_getElem? (i := 21) rfl)), Or.inl tw_t62⟩ : sm_F 44 21 (.getfield 98) 3),
  List.forall_mem_cons.mpr ⟨(⟨rfl, mf_11, tw_t197, tw_t198, rfl, by decide, 62, (r_44 _ (List.mem_of_getElem? (i := 22) rfl)), Or.inl tw_t469⟩ : sm_F 44 25 (.invokevirtual 11) 3),
  List.forall_mem_cons.mpr ⟨(⟨by decide, by decide, rfl, 9, (r_44 _ (List.mem_of_getElem? (i := 23) rfl)), Or.inl tw_t60⟩ : sm_F 44 32 (.getfield 96) 3),
  List.forall_mem_cons.mpr ⟨(⟨65, (r_44 _ (List.mem_of_getElem? (i := 24) rfl)), rfl, by decide +kernel⟩ : ∃ x : Nat, decode (mB 44) 39 = .ok (.ldc x, 2) ∧ 2 = 2 ∧ (((mN 44).cls, x), 32) ∈ sKl),
  List.forall_mem_cons.mpr ⟨(⟨rfl, mf_35, tw_t409, tw_t410, rfl, by decide, 58, (r_44 _ (List.mem_of_getElem? (i := 25) rfl)), Or.inl tw_t468⟩ : sm_F 44 41 (.invokevirtual 35) 3),
  fun _ h => absurd h List.not_mem_nil⟩⟩⟩⟩⟩⟩⟩⟩
theorem f_44 : ∀ q ∈ cd_44, sm_F 44 q.1 q.2.2.2 q.2.1 := List.forall_mem_append.mpr ⟨fs_44, fl_44⟩
theorem r_45 : ∀ q ∈ cd_45, decode (mB 45) q.1 = .ok (q.2.2.1, q.2.1) := sm_all (by decide +kernel)
theorem fs_45 : ∀ q ∈ sp_45, sm_F 45 q.1 q.2.2.2 q.2.1 := sm_rsl (fun q h => r_45 q (List.mem_append_left _ h)) (by decide +kernel)
theorem fl_45 : ∀ q ∈ lk_45, sm_F 45 q.1 q.2.2.2 q.2.1 := List.forall_mem_cons.mpr ⟨(⟨by decide, by decide, rfl, 15, (r_45 _ (List.mem_of_getElem? (i := 12) rfl)), Or.inl tw_t61⟩ : sm_F 45 1 (.getfield 97) 3),
  List.forall_mem_cons.mpr ⟨(⟨67, (r_45 _ (List.mem_of_getElem? (i := 13) rfl)), rfl, by decide +kernel⟩ : ∃ x : Nat, decode (mB 45) 120 = .ok (.ldc x, 2) ∧ 2 = 2 ∧ (((mN 45).cls, x), 12) ∈ sKl),
  List.forall_mem_cons.mpr ⟨(⟨69, (r_45 _ (List.mem_of_getElem? (i := 14) rfl)), rfl, by decide +kernel⟩ : ∃ x : Nat, decode (mB 45) 123 = .ok (.ldc x, 2) ∧ 2 = 2 ∧ (((mN 45).cls, x), 14) ∈ sKl),
  List.forall_mem_cons.mpr ⟨(⟨71, (r_45 _ (List.mem_of_getElem? (i := 15) rfl)), rfl, by decide +kernel⟩ : ∃ x : Nat, decode (mB 45) 126 = .ok (.ldc x, 2) ∧ 2 = 2 ∧ (((mN 45).cls, x), 16) ∈ sKl),
  List.forall_mem_cons.mpr ⟨(⟨73, (r_45 _ (List.mem_of_getElem? (i := 16) rfl)), rfl, by decide +kernel⟩ : ∃ x : Nat, decode (mB 45) 129 = .ok (.ldc x, 2) ∧ 2 = 2 ∧ (((mN 45).cls, x), 18) ∈ sKl),
  List.forall_mem_cons.mpr ⟨(⟨75, (r_45 _ (List.mem_of_getElem? (i := 17) rfl)), rfl, by decide +kernel⟩ : ∃ x : Nat, decode (mB 45) 132 = .ok (.ldc x, 2) ∧ 2 = 2 ∧ (((mN 45).cls, x), 20) ∈ sKl),
  List.forall_mem_cons.mpr ⟨(⟨77, (r_45 _ (List.mem_of_getElem? (i := 18) rfl)), rfl, by decide +kernel⟩ : ∃ x : Nat, decode (mB 45) 135 = .ok (.ldc x, 2) ∧ 2 = 2 ∧ (((mN 45).cls, x), 22) ∈ sKl),
  List.forall_mem_cons.mpr ⟨(⟨79, (r_45 _ (List.mem_of_getElem? (i := 19) rfl)), rfl, by decide +kernel⟩ : ∃ x : Nat, decode (mB 45) 138 = .ok (.ldc x, 2) ∧ 2 = 2 ∧ (((mN 45).cls, x), 24) ∈ sKl),
  List.forall_mem_cons.mpr ⟨(⟨81, (r_45 _ (List.mem_of_getElem? (i := 20) rfl)), rfl, by decide +kernel⟩ : ∃ x : Nat, decode (mB 45) 141 = .ok (.ldc x, 2) ∧ 2 = 2 ∧ (((mN 45).cls, x), 26) ∈ sKl),
  List.forall_mem_cons.mpr ⟨(⟨83, (r_45 _ (List.mem_of_getElem? (i := 21) rfl)), rfl, by decide +kernel⟩ : ∃ x : Nat, decode (mB 45) 144 = .ok (.ldc x, 2) ∧ 2 = 2 ∧ (((mN 45).cls, x), 28) ∈ sKl),
  List.forall_mem_cons.mpr ⟨(⟨85, (r_45 _ (List.mem_of_getElem? (i := 22) rfl)), rfl, by decide +kernel⟩ : ∃ x : Nat, decode (mB 45) 147 = .ok (.ldc x, 2) ∧ 2 = 2 ∧ (((mN 45).cls, x), 30) ∈ sKl),
  fun _ h => absurd h List.not_mem_nil⟩⟩⟩⟩⟩⟩⟩⟩⟩⟩⟩
theorem f_45 : ∀ q ∈ cd_45, sm_F 45 q.1 q.2.2.2 q.2.1 := List.forall_mem_append.mpr ⟨fs_45, fl_45⟩
theorem r_46 : ∀ q ∈ cd_46, decode (mB 46) q.1 = .ok (q.2.2.1, q.2.1) := sm_all (by decide +kernel)
theorem fs_46 : ∀ q ∈ sp_46, sm_F 46 q.1 q.2.2.2 q.2.1 := sm_rsl (fun q h => r_46 q (List.mem_append_left _ h)) (by decide +kernel)
theorem fl_46 : ∀ q ∈ lk_46, sm_F 46 q.1 q.2.2.2 q.2.1 := List.forall_mem_cons.mpr ⟨(⟨by decide, by decide, rfl, 15, (r_46 _ (List.mem_of_getElem? (i := 2) rfl)), Or.inl tw_t61⟩ : sm_F 46 1 (.getfield 97) 3),
  fun _ h => absurd h List.not_mem_nil⟩
theorem f_46 : ∀ q ∈ cd_46, sm_F 46 q.1 q.2.2.2 q.2.1 := List.forall_mem_append.mpr ⟨fs_46, fl_46⟩
theorem r_47 : ∀ q ∈ cd_47, decode (mB 47) q.1 = .ok (q.2.2.1, q.2.1) := sm_all (by decide +kernel)
theorem fs_47 : ∀ q ∈ sp_47, sm_F 47 q.1 q.2.2.2 q.2.1 := sm_rsl (fun q h => r_47 q (List.mem_append_left _ h)) (by decide +kernel)
theorem fl_47 : ∀ q ∈ lk_47, sm_F 47 q.1 q.2.2.2 q.2.1 := List.forall_mem_cons.mpr ⟨(⟨rfl, mf_11, tw_t197, tw_t198, rfl, by decide, 34, (r_47 _ (List.mem_of_getElem? (i := 45) rfl)), Or.inl tw_t412⟩ : sm_F 47 9 (.invokevirtual 11) 3),
  List.forall_mem_cons.mpr ⟨(Or.inr ⟨45, (r_47 _ (List.mem_of_getElem? (i := 46) rfl)), rfl, tw_t483⟩ : sm_F 47 27 (.ldc2_w 9) 3),
  List.forall_mem_cons.mpr ⟨(Or.inr ⟨47, (r_47 _ (List.mem_of_getElem? (i := 47) rfl)), rfl, tw_t484⟩ : sm_F 47 37 (.ldc2_w 18446744073709551607) 3),
  List.forall_mem_cons.mpr ⟨(Or.inr ⟨49, (r_47 _ (List.mem_of_getElem? (i := 48) rfl)), rfl, tw_t485⟩ : sm_F 47 45 (.ldc2_w 10) 3),
  List.forall_mem_cons.mpr ⟨(Or.inr ⟨49, (r_47 _ (List.mem_of_getElem? (i := 49) rfl)), rfl, tw_t485⟩ : sm_F 47 68 (.ldc2_w 10) 3),
  List.forall_mem_cons.mpr ⟨(⟨rfl, 51, (r_47 _ (List.mem_of_getElem? (i := 50) rfl)), tw_t486, tw_t487, tw_t9, tw_t488⟩ : sm_F 47 72 .dneg 3),
  List.forall_mem_cons.mpr ⟨(⟨rfl, mf_11, tw_t197, tw_t198, rfl, by decide, 34, (r_47 _ (List.mem_of_getElem? (i := 51) rfl)), Or.inl tw_t412⟩ : sm_F 47 77 (.invokevirtual 11) 3),
  List.forall_mem_cons.mpr ⟨(Or.inr ⟨49, (r_47 _ (List.mem_of_getElem? (i := 52) rfl)), rfl, tw_t485⟩ : sm_F 47 81 (.ldc2_w 10) 3),
  fun _ h => absurd h List.not_mem_nil⟩⟩⟩⟩⟩⟩⟩⟩
theorem f_47 : ∀ q ∈ cd_47, sm_F 47 q.1 q.2.2.2 q.2.1 := List.forall_mem_append.mpr ⟨fs_47, fl_47⟩
theorem r_48 : ∀ q ∈ cd_48, decode (mB 48) q.1 = .ok (q.2.2.1, q.2.1) := sm_all (by decide +kernel)
theorem fs_48 : ∀ q ∈ sp_48, sm_F 48 q.1 q.2.2.2 q.2.1 := sm_rsl (fun q h => r_48 q (List.mem_append_left _ h)) (by decide +kernel)
theorem fl_48 : ∀ q ∈ lk_48, sm_F 48 q.1 q.2.2.2 q.2.1 := List.forall_mem_cons.mpr ⟨(Or.inr (Or.inr (Or.inr ⟨154, (r_48 _ (List.mem_of_getElem? (i := 42) rfl)), rfl, tw_t493⟩)) : sm_F 48 1 (.iconst 65535) 2),
  List.forall_mem_cons.mpr ⟨(⟨155, (r_48 _ (List.mem_of_getElem? (i := 43) rfl)), rfl, by decide +kernel⟩ : ∃ x : Nat, decode (mB 48) 41 = .ok (.ldc x, 2) ∧ 2 = 2 ∧ (((mN 48).cls, x), 42) ∈ sKl),
  List.forall_mem_cons.mpr ⟨(⟨rfl, mf_35, tw_t409, tw_t410, rfl, by decide, 35, (r_48 _ (List.mem_of_getElem? (i := 44) rfl)), Or.inl tw_t408⟩ : sm_F 48 43 (.invokevirtual 35) 3),
  List.forall_mem_cons.mpr ⟨(⟨157, (r_48 _ (List.mem_of_getElem? (i := 45) rfl)), rfl, by decide +kernel⟩ : ∃ x : Nat, decode (mB 48) 48 = .ok (.ldc x, 2) ∧ 2 = 2 ∧ (((mN 48).cls, x), 44) ∈ sKl),
  List.forall_mem_cons.mpr ⟨(⟨rfl, mf_35, tw_t409, tw_t410, rfl, by decide, 35, (r_48 _ (List.mem_of_getElem? (i := 46) rfl)), Or.inl tw_t408⟩ : sm_F 48 50 (.invokevirtual 35) 3),
  List.forall_mem_cons.mpr ⟨(⟨159, (r_48 _ (List.mem_of_getElem? (i := 47) rfl)), rfl, by decide +kernel⟩ : ∃ x : Nat, decode (mB 48) 55 = .ok (.ldc x, 2) ∧ 2 = 2 ∧ (((mN 48).cls, x), 46) ∈ sKl),
  List.forall_mem_cons.mpr ⟨(⟨rfl, mf_35, tw_t409, tw_t410, rfl, by decide, 35, (r_48 _ (List.mem_of_getElem? (i := 48) rfl)), Or.inl tw_t408⟩ : sm_F 48 57 (.invokevirtual 35) 3),
  List.forall_mem_cons.mpr ⟨(⟨rfl, mf_11, tw_t197, tw_t198, rfl, by decide, 43, (r_48 _ (List.mem_of_getElem? (i := 49) rfl)), Or.inl tw_t471⟩ : sm_F 48 75 (.invokevirtual 11) 3),
  List.forall_mem_cons.mpr ⟨(⟨rfl, mf_11, tw_t197, tw_t198, rfl, by decide, 43, (r_48 _ (List.mem_of_getElem? (i := 50) rfl)), Or.inl tw_t471⟩ : sm_F 48 92 (.invokevirtual 11) 3),
  List.forall_mem_cons.mpr ⟨(⟨161, (r_48 _ (List.mem_of_getElem? (i := 51) rfl)), rfl, by decide +kernel⟩ : ∃ x : Nat, decode (mB 48) 97 = .ok (.ldc x, 2) ∧ 2 = 2 ∧ (((mN 48).cls, x), 48) ∈ sKl),
  List.forall_mem_cons.mpr ⟨(⟨rfl, mf_35, tw_t409, tw_t410, rfl, by decide, 35, (r_48 _ (List.mem_of_getElem? (i := 52) rfl)), Or.inl tw_t408⟩ : sm_F 48 99 (.invokevirtual 35) 3),
  List.forall_mem_cons.mpr ⟨(⟨163, (r_48 _ (List.mem_of_getElem? (i := 53) rfl)), rfl, by decide +kernel⟩ : ∃ x : Nat, decode (mB 48) 112 = .ok (.ldc x, 2) ∧ 2 = 2 ∧ (((mN 48).cls, x), 50) ∈ sKl),
  List.forall_mem_cons.mpr ⟨(⟨rfl, mf_150, tw_t345, tw_t346, rfl, by decide, 165, (r_48 _ (List.mem_of_getElem? (i := 54) rfl)), Or.inl tw_t499⟩ : sm_F 48 121 (.invokevirtual 150) 3),
  List.forall_mem_cons.mpr ⟨(⟨rfl, mf_11, tw_t197, tw_t198, rfl, by decide, 43, (r_48 _ (List.mem_of_getElem? (i := 55) rfl)), Or.inl tw_t471⟩ : sm_F 48 124 (.invokevirtual 11) 3),
  fun _ h => absurd h List.not_mem_nil⟩⟩⟩⟩⟩⟩⟩⟩⟩⟩⟩⟩⟩⟩
theorem f_48 : ∀ q ∈ cd_48, sm_F 48 q.1 q.2.2.2 q.2.1 := List.forall_mem_append.mpr ⟨fs_48, fl_48⟩
theorem r_49 : ∀ q ∈ cd_49, decode (mB 49) q.1 = .ok (q.2.2.1, q.2.1) := sm_all (by decide +kernel)
theorem fs_49 : ∀ q ∈ sp_49, sm_F 49 q.1 q.2.2.2 q.2.1 := sm_rsl (fun q h => r_49 q (List.mem_append_left _ h)) (by decide +kernel)
theorem fl_49 : ∀ q ∈ lk_49, sm_F 49 q.1 q.2.2.2 q.2.1 := List.forall_mem_cons.mpr ⟨(Or.inr (Or.inr (Or.inr ⟨143, (r_49 _ (List.mem_of_getElem? (i := 8) rfl)), rfl, tw_t503⟩)) : sm_F 49 1 (.iconst (-2147483648)) 2),
  List.forall_mem_cons.mpr ⟨(⟨144, (r_49 _ (List.mem_of_getElem? (i := 9) rfl)), rfl, by decide +kernel⟩ : ∃ x : Nat, decode (mB 49) 7 = .ok (.ldc x, 2) ∧ 2 = 2 ∧ (((mN 49).cls, x), 52) ∈ sKl),
  List.forall_mem_cons.mpr ⟨(⟨rfl, mf_35, tw_t409, tw_t410, rfl, by decide, 35, (r_49 _ (List.mem_of_getElem? (i := 10) rfl)), Or.inl tw_t408⟩ : sm_F 49 9 (.invokevirtual 35) 3),
  List.forall_mem_cons.mpr ⟨(⟨rfl, mf_47, tw_t480, tw_t481, rfl, by decide, 93, (r_49 _ (List.mem_of_getElem? (i := 11) rfl)), Or.inl tw_t479⟩ : sm_F 49 18 (.invokevirtual 47) 3),
  fun _ h => absurd h List.not_mem_nil⟩⟩⟩⟩
theorem f_49 : ∀ q ∈ cd_49, sm_F 49 q.1 q.2.2.2 q.2.1 := List.forall_mem_append.mpr ⟨fs_49, fl_49⟩
theorem r_50 : ∀ q ∈ cd_50, decode (mB 50) q.1 = .ok (q.2.2.1, q.2.1) := sm_all (by decide +kernel)
theorem fs_50 : ∀ q ∈ sp_50, sm_F 50 q.1 q.2.2.2 q.2.1 := sm_rsl (fun q h => r_50 q (List.mem_append_left _ h)) (by decide +kernel)
theorem fl_50 : ∀ q ∈ lk_50, sm_F 50 q.1 q.2.2.2 q.2.1 := List.forall_mem_cons.mpr ⟨(⟨by decide, by decide, rfl, 12, (r_50 _ (List.mem_of_getElem? (i := 23) rfl)), Or.inl tw_t96⟩ : sm_F 50 1 (.getfield 128) 3),
  List.forall_mem_cons.mpr ⟨(⟨rfl, mf_43, tw_t444, tw_t445, rfl, by decide, 84, (r_50 _ (List.mem_of_getElem? (i := 24) rfl)), Or.inl tw_t443⟩ : sm_F 50 4 (.invokevirtual 43) 3),
  List.forall_mem_cons.mpr ⟨(⟨by decide, by decide, rfl, 12, (r_50 _ (List.mem_of_getElem? (i := 25) rfl)), Or.inl tw_t96⟩ : sm_F 50 10 (.getfield 128) 3),
  List.forall_mem_cons.mpr ⟨(⟨rfl, mf_43, tw_t444, tw_t445, rfl, by decide, 84, (r_50 _ (List.mem_of_getElem? (i := 26) rfl)), Or.inl tw_t443⟩ : sm_F 50 13 (.invokevirtual 43) 3),
  List.forall_mem_cons.mpr ⟨(Or.inr ⟨133, (r_50 _ (List.mem_of_getElem? (i := 27) rfl)), rfl, tw_t509⟩ : sm_F 50 17 (.ldc2_w 4294967295) 3),
  List.forall_mem_cons.mpr ⟨(Or.inr ⟨137, (r_50 _ (List.mem_of_getElem? (i := 28) rfl)), rfl, tw_t510⟩ : sm_F 50 34 (.ldc2_w 9223372036854775808) 3),
  List.forall_mem_cons.mpr ⟨(⟨139, (r_50 _ (List.mem_of_getElem? (i := 29) rfl)), rfl, by decide +kernel⟩ : ∃ x : Nat, decode (mB 50) 42 = .ok (.ldc x, 2) ∧ 2 = 2 ∧ (((mN 50).cls, x), 54) ∈ sKl),
  List.forall_mem_cons.mpr ⟨(⟨rfl, mf_35, tw_t409, tw_t410, rfl, by decide, 35, (r_50 _ (List.mem_of_getElem? (i := 30) rfl)), Or.inl tw_t408⟩ : sm_F 50 44 (.invokevirtual 35) 3),
  List.forall_mem_cons.mpr ⟨(⟨rfl, mf_47, tw_t480, tw_t481, rfl, by decide, 93, (r_50 _ (List.mem_of_getElem? (i := 31) rfl)), Or.inl tw_t479⟩ : sm_F 50 53 (.invokevirtual 47) 3),
  List.forall_mem_cons.mpr ⟨(⟨rfl, mf_11, tw_t197, tw_t198, rfl, by decide, 43, (r_50 _ (List.mem_of_getElem? (i := 32) rfl)), Or.inl tw_t471⟩ : sm_F 50 59 (.invokevirtual 11) 3),
  fun _ h => absurd h List.not_mem_nil⟩⟩⟩⟩⟩⟩⟩⟩⟩⟩
theorem f_50 : ∀ q ∈ cd_50, sm_F 50 q.1 q.2.2.2 q.2.1 := List.forall_mem_append.mpr ⟨fs_50, fl_50⟩
theorem r_51 : ∀ q ∈ cd_51, decode (mB 51) q.1 = .ok (q.2.2.1, q.2.1) := sm_all (by decide +kernel)
theorem fs_51 : ∀ q ∈ sp_51, sm_F 51 q.1 q.2.2.2 q.2.1 := sm_rsl (fun q h => r_51 q (List.mem_append_left _ h)) (by decide +kernel)
theorem fl_51 : ∀ q ∈ lk_51, sm_F 51 q.1 q.2.2.2 q.2.1 := List.forall_mem_cons.mpr ⟨(⟨rfl, mf_11, tw_t197, tw_t198, rfl, by decide, 43, (r_51 _ (List.mem_of_getElem? (i := 48) rfl)), Or.inl tw_t471⟩ : sm_F 51 9 (.invokevirtual 11) 3),
  List.forall_mem_cons.mpr ⟨(⟨rfl, 146, (r_51 _ (List.mem_of_getElem? (i := 49) rfl)), tw_t515, tw_t487, tw_t9, tw_t488⟩ : sm_F 51 13 .dneg 3),
  List.forall_mem_cons.mpr ⟨(Or.inr ⟨152, (r_51 _ (List.mem_of_getElem? (i := 50) rfl)), rfl, tw_t516⟩ : sm_F 51 18 (.ldc2_w 8) 3),
  List.forall_mem_cons.mpr ⟨(Or.inr ⟨152, (r_51 _ (List.mem_of_getElem? (i := 51) rfl)), rfl, tw_t516⟩ : sm_F 51 30 (.ldc2_w 8) 3),
  List.forall_mem_cons.mpr ⟨(⟨rfl, mf_47, tw_t480, tw_t481, rfl, by decide, 93, (r_51 _ (List.mem_of_getElem? (i := 52) rfl)), Or.inl tw_t479⟩ : sm_F 51 34 (.invokevirtual 47) 3),
  List.forall_mem_cons.mpr ⟨(⟨rfl, mf_11, tw_t197, tw_t198, rfl, by decide, 43, (r_51 _ (List.mem_of_getElem? (i := 53) rfl)), Or.inl tw_t471⟩ : sm_F 51 40 (.invokevirtual 11) 3),
  List.forall_mem_cons.mpr ⟨(⟨rfl, mf_11, tw_t197, tw_t198, rfl, by decide, 43, (r_51 _ (List.mem_of_getElem? (i := 54) rfl)), Or.inl tw_t471⟩ : sm_F 51 52 (.invokevirtual 11) 3),
  List.forall_mem_cons.mpr ⟨(⟨rfl, mf_11, tw_t197, tw_t198, rfl, by decide, 43, (r_51 _ (List.mem_of_getElem? (i := 55) rfl)), Or.inl tw_t471⟩ : sm_F 51 75 (.invokevirtual 11) 3),
  List.forall_mem_cons.mpr ⟨(⟨rfl, mf_11, tw_t197, tw_t198, rfl, by decide, 43, (r_51 _ (List.mem_of_getElem? (i := 56) rfl)), Or.inl tw_t471⟩ : sm_F 51 95 (.invokevirtual 11) 3),
  fun _ h => absurd h List.not_mem_nil⟩⟩⟩⟩⟩⟩⟩⟩⟩
theorem f_51 : ∀ q ∈ cd_51, sm_F 51 q.1 q.2.2.2 q.2.1 := List.forall_mem_append.mpr ⟨fs_51, fl_51⟩
theorem r_52 : ∀ q ∈ cd_52, decode (mB 52) q.1 = .ok (q.2.2.1, q.2.1) := sm_all (by decide +kernel)
theorem fs_52 : ∀ q ∈ sp_52, sm_F 52 q.1 q.2.2.2 q.2.1 := sm_rsl (fun q h => r_52 q (List.mem_append_left _ h)) (by decide +kernel)
theorem fl_52 : ∀ q ∈ lk_52, sm_F 52 q.1 q.2.2.2 q.2.1 := List.forall_mem_cons.mpr ⟨(⟨by decide, by decide, rfl, 12, (r_52 _ (List.mem_of_getElem? (i := 23) rfl)), Or.inl tw_t96⟩ : sm_F 52 1 (.getfield 128) 3),
  List.forall_mem_cons.mpr ⟨(⟨rfl, mf_43, tw_t444, tw_t445, rfl, by decide, 84, (r_52 _ (List.mem_of_getElem? (i := 24) rfl)), Or.inl tw_t443⟩ : sm_F 52 4 (.invokevirtual 43) 3),
  List.forall_mem_cons.mpr ⟨(⟨124, (r_52 _ (List.mem_of_getElem? (i := 25) rfl)), rfl, by decide +kernel⟩ : ∃ x : Nat, decode (mB 52) 13 = .ok (.ldc x, 2) ∧ 2 = 2 ∧ (((mN 52).cls, x), 8) ∈ sKl),
  List.forall_mem_cons.mpr ⟨(⟨rfl, mf_35, tw_t409, tw_t410, rfl, by decide, 35, (r_52 _ (List.mem_of_getElem? (i := 26) rfl)), Or.inl tw_t408⟩ : sm_F 52 15 (.invokevirtual 35) 3),
  List.forall_mem_cons.mpr ⟨(⟨rfl, mf_11, tw_t197, tw_t198, rfl, by decide, 43, (r_52 _ (List.mem_of_getElem? (i := 27) rfl)), Or.inl tw_t471⟩ : sm_F 52 22 (.invokevirtual 11) 3),
  List.forall_mem_cons.mpr ⟨(⟨by decide, by decide, rfl, 12, (r_52 _ (List.mem_of_getElem? (i := 28) rfl)), Or.inl tw_t96⟩ : sm_F 52 35 (.getfield 128) 3),
  List.forall_mem_cons.mpr ⟨(⟨rfl, mf_43, tw_t444, tw_t445, rfl, by decide, 84, (r_52 _ (List.mem_of_getElem? (i := 29) rfl)), Or.inl tw_t443⟩ : sm_F 52 38 (.invokevirtual 43) 3),
  List.forall_mem_cons.mpr ⟨(⟨rfl, mf_48, tw_t491, 99, (r_52 _ (List.mem_of_getElem? (i := 30) rfl)), Or.inl tw_t490⟩ : sm_F 52 44 (.invokestatic 48) 3),
  List.forall_mem_cons.mpr ⟨(⟨rfl, mf_11, tw_t197, tw_t198, rfl, by decide, 43, (r_52 _ (List.mem_of_getElem? (i := 31) rfl)), Or.inl tw_t471⟩ : sm_F 52 56 (.invokevirtual 11) 3),
  fun _ h => absurd h List.not_mem_nil⟩⟩⟩⟩⟩⟩⟩⟩⟩
theorem f_52 : ∀ q ∈ cd_52, sm_F 52 q.1 q.2.2.2 q.2.1 := List.forall_mem_append.mpr ⟨fs_52, fl_52⟩
theorem r_53 : ∀ q ∈ cd_53, decode (mB 53) q.1 = .ok (q.2.2.1, q.2.1) := sm_all (by decide +kernel)
theorem fs_53 : ∀ q ∈ sp_53, sm_F 53 q.1 q.2.2.2 q.2.1 := sm_rsl (fun q h => r_53 q (List.mem_append_left _ h)) (by decide +kernel)
theorem fl_53 : ∀ q ∈ lk_53, sm_F 53 q.1 q.2.2.2 q.2.1 := List.forall_mem_cons.mpr ⟨(⟨by decide, by decide, rfl, 18, (r_53 _ (List.mem_of_getElem? (i := 2) rfl)), Or.inl tw_t62⟩ : sm_F 53 1 (.getfield 98) 3),
  fun _ h => absurd h List.not_mem_nil⟩
theorem f_53 : ∀ q ∈ cd_53, sm_F 53 q.1 q.2.2.2 q.2.1 := List.forall_mem_append.mpr ⟨fs_53, fl_53⟩
theorem r_54 : ∀ q ∈ cd_54, decode (mB 54) q.1 = .ok (q.2.2.1, q.2.1) := sm_all (by decide +kernel)
theorem fs_54 : ∀ q ∈ sp_54, sm_F 54 q.1 q.2.2.2 q.2.1 := sm_rsl (fun q h => r_54 q (List.mem_append_left _ h)) (by decide +kernel)
theorem fl_54 : ∀ q ∈ lk_54, sm_F 54 q.1 q.2.2.2 q.2.1 := List.forall_mem_cons.mpr ⟨(⟨by decide, by decide, rfl, 12, (r_54 _ (List.mem_of_getElem? (i := 27) rfl)), Or.inl tw_t96⟩ : sm_F 54 1 (.getfield 128) 3),
  List.forall_mem_cons.mpr ⟨(⟨rfl, mf_43, tw_t444, tw_t445, rfl, by decide, 84, (r_54 _ (List.mem_of_getElem? (i := 28) rfl)), Or.inl tw_t443⟩ : sm_F 54 4 (.invokevirtual 43) 3),
  List.forall_mem_cons.mpr ⟨(⟨124, (r_54 _ (List.mem_of_getElem? (i := 29) rfl)), rfl, by decide +kernel⟩ : ∃ x : Nat, decode (mB 54) 20 = .ok (.ldc x, 2) ∧ 2 = 2 ∧ (((mN 54).cls, x), 8) ∈ sKl),
  List.forall_mem_cons.mpr ⟨(⟨rfl, mf_35, tw_t409, tw_t410, rfl, by decide, 35, (r_54 _ (List.mem_of_getElem? (i := 30) rfl)), Or.inl tw_t408⟩ : sm_F 54 22 (.invokevirtual 35) 3),
  List.forall_mem_cons.mpr ⟨(⟨131, (r_54 _ (List.mem_of_getElem? (i := 31) rfl)), rfl, by decide +kernel⟩ : ∃ x : Nat, decode (mB 54) 27 = .ok (.ldc x, 2) ∧ 2 = 2 ∧ (((mN 54).cls, x), 56) ∈ sKl),
  List.forall_mem_cons.mpr ⟨(⟨rfl, mf_35, tw_t409, tw_t410, rfl, by decide, 35, (r_54 _ (List.mem_of_getElem? (i := 32) rfl)), Or.inl tw_t408⟩ : sm_F 54 29 (.invokevirtual 35) 3),
  List.forall_mem_cons.mpr ⟨(⟨rfl, mf_11, tw_t197, tw_t198, rfl, by decide, 43, (r_54 _ (List.mem_of_getElem? (i := 33) rfl)), Or.inl tw_t471⟩ : sm_F 54 37 (.invokevirtual 11) 3),
  List.forall_mem_cons.mpr ⟨(⟨rfl, mf_11, tw_t197, tw_t198, rfl, by decide, 43, (r_54 _ (List.mem_of_getElem? (i := 34) rfl)), Or.inl tw_t471⟩ : sm_F 54 43 (.invokevirtual 11) 3),
  List.forall_mem_cons.mpr ⟨(⟨by decide, by decide, rfl, 20, (r_54 _ (List.mem_of_getElem? (i := 35) rfl)), Or.inl tw_t97⟩ : sm_F 54 48 (.getfield 129) 3),
  List.forall_mem_cons.mpr ⟨(⟨rfl, mf_36, tw_t415, tw_p1, rfl, by decide, 39, (r_54 _ (List.mem_of_getElem? (i := 36) rfl)), Or.inl tw_t413⟩ : sm_F 54 57 (.invokevirtual 36) 3),
  List.forall_mem_cons.mpr ⟨(⟨rfl, mf_11, tw_t197, tw_t198, rfl, by decide, 43, (r_54 _ (List.mem_of_getElem? (i := 37) rfl)), Or.inl tw_t471⟩ : sm_F 54 63 (.invokevirtual 11) 3),
  fun _ h => absurd h List.not_mem_nil⟩⟩⟩⟩⟩⟩⟩⟩⟩⟩⟩
theorem f_54 : ∀ q ∈ cd_54, sm_F 54 q.1 q.2.2.2 q.2.1 := List.forall_mem_append.mpr ⟨fs_54, fl_54⟩
theorem r_55 : ∀ q ∈ cd_55, decode (mB 55) q.1 = .ok (q.2.2.1, q.2.1) := sm_all (by decide +kernel)
theorem fs_55 : ∀ q ∈ sp_55, sm_F 55 q.1 q.2.2.2 q.2.1 := sm_rsl (fun q h => r_55 q (List.mem_append_left _ h)) (by decide +kernel)
theorem fl_55 : ∀ q ∈ lk_55, sm_F 55 q.1 q.2.2.2 q.2.1 := List.forall_mem_cons.mpr ⟨(⟨rfl, mf_18, tw_t315, tw_t316, rfl, by decide, 28, (r_55 _ (List.mem_of_getElem? (i := 10) rfl)), Or.inl tw_t406⟩ : sm_F 55 1 (.invokevirtual 18) 3),
  List.forall_mem_cons.mpr ⟨(⟨rfl, mf_56, tw_t535, tw_t536, rfl, by decide, 46, (r_55 _ (List.mem_of_getElem? (i := 11) rfl)), Or.inl tw_t534⟩ : sm_F 55 7 (.invokevirtual 56) 3),
  List.forall_mem_cons.mpr ⟨(⟨rfl, mf_39, tw_t428, tw_p2, rfl, by decide, 52, (r_55 _ (List.mem_of_getElem? (i := 12) rfl)), Or.inl tw_t426⟩ : sm_F 55 18 (.invokevirtual 39) 3),
  fun _ h => absurd h List.not_mem_nil⟩⟩⟩
theorem f_55 : ∀ q ∈ cd_55, sm_F 55 q.1 q.2.2.2 q.2.1 := List.forall_mem_append.mpr ⟨fs_55, fl_55⟩
theorem r_56 : ∀ q ∈ cd_56, decode (mB 56) q.1 = .ok (q.2.2.1, q.2.1) := sm_all (by decide +kernel)
theorem fs_56 : ∀ q ∈ sp_56, sm_F 56 q.1 q.2.2.2 q.2.1 := sm_rsl (fun q h => r_56 q (List.mem_append_left _ h)) (by decide +kernel)
theorem fl_56 : ∀ q ∈ lk_56, sm_F 56 q.1 q.2.2.2 q.2.1 := List.forall_mem_cons.mpr ⟨(⟨by decide, by decide, rfl, 9, (r_56 _ (List.mem_of_getElem? (i := 9) rfl)), Or.inl tw_t60⟩ : sm_F 56 1 (.getfield 96) 3),
  List.forall_mem_cons.mpr ⟨(⟨by decide, by decide, rfl, 15, (r_56 _ (List.mem_of_getElem? (i := 10) rfl)), Or.inl tw_t61⟩ : sm_F 56 8 (.getfield 97) 3),
  fun _ h => absurd h List.not_mem_nil⟩⟩
theorem f_56 : ∀ q ∈ cd_56, sm_F 56 q.1 q.2.2.2 q.2.1 := List.forall_mem_append.mpr ⟨fs_56, fl_56⟩
theorem r_57 : ∀ q ∈ cd_57, decode (mB 57) q.1 = .ok (q.2.2.1, q.2.1) := sm_all (by decide +kernel)
theorem fs_57 : ∀ q ∈ sp_57, sm_F 57 q.1 q.2.2.2 q.2.1 := sm_rsl (fun q h => r_57 q (List.mem_append_left _ h)) (by decide +kernel)
theorem fl_57 : ∀ q ∈ lk_57, sm_F 57 q.1 q.2.2.2 q.2.1 := List.forall_mem_cons.mpr ⟨(⟨by decide, by decide, rfl, 19, (r_57 _ (List.mem_of_getElem? (i := 2) rfl)), Or.inl tw_t84⟩ : sm_F 57 1 (.getfield 162) 3),
  fun _ h => absurd h List.not_mem_nil⟩
theorem f_57 : ∀ q ∈ cd_57, sm_F 57 q.1 q.2.2.2 q.2.1 := List.forall_mem_append.mpr ⟨fs_57, fl_57⟩
theorem r_58 : ∀ q ∈ cd_58, decode (mB 58) q.1 = .ok (q.2.2.1, q.2.1) := sm_all (by decide +kernel)
theorem fs_58 : ∀ q ∈ sp_58, sm_F 58 q.1 q.2.2.2 q.2.1 := sm_rsl (fun q h => r_58 q (List.mem_append_left _ h)) (by decide +kernel)
theorem fl_58 : ∀ q ∈ lk_58, sm_F 58 q.1 q.2.2.2 q.2.1 := List.forall_mem_cons.mpr ⟨(⟨by decide, by decide, rfl, 47, (r_58 _ (List.mem_of_getElem? (i := 40) rfl)), Or.inl tw_t163⟩ : sm_F 58 1 (.getfield 6) 3),
  List.forall_mem_cons.mpr ⟨(⟨rfl, mf_18, tw_t315, tw_t316, rfl, by decide, 99, (r_58 _ (List.mem_of_getElem? (i := 41) rfl)), Or.inl tw_t314⟩ : sm_F 58 4 (.invokevirtual 18) 3),
  List.forall_mem_cons.mpr ⟨(⟨by decide, by decide, rfl, 30, (r_58 _ (List.mem_of_getElem? (i := 42) rfl)), Or.inl tw_t159⟩ : sm_F 58 8 (.getfield 2) 3),
  List.forall_mem_cons.mpr ⟨(⟨rfl, mf_56, tw_t535, tw_t536, rfl, by decide, 172, (r_58 _ (List.mem_of_getElem? (i := 43) rfl)), Or.inl tw_t546⟩ : sm_F 58 13 (.invokevirtual 56) 3),
  List.forall_mem_cons.mpr ⟨(⟨by decide, by decide, rfl, 47, (r_58 _ (List.mem_of_getElem? (i := 44) rfl)), Or.inl tw_t163⟩ : sm_F 58 20 (.getfield 6) 3),
  List.forall_mem_cons.mpr ⟨(⟨by decide, by decide, rfl, 41, (r_58 _ (List.mem_of_getElem? (i := 45) rfl)), Or.inl tw_t161⟩ : sm_F 58 24 (.getfield 4) 3),
  List.forall_mem_cons.mpr ⟨(⟨rfl, mf_59, tw_t548, tw_t549, rfl, by decide, 175, (r_58 _ (List.mem_of_getElem? (i := 46) rfl)), Or.inl tw_t547⟩ : sm_F 58 27 (.invokevirtual 59) 3),
  List.forall_mem_cons.mpr ⟨(⟨by decide, by decide, rfl, 47, (r_58 _ (List.mem_of_getElem? (i := 47) rfl)), Or.inl tw_t163⟩ : sm_F 58 31 (.getfield 6) 3),
  List.forall_mem_cons.mpr ⟨(⟨178, (r_58 _ (List.mem_of_getElem? (i := 48) rfl)), rfl, by decide +kernel⟩ : ∃ x : Nat, decode (mB 58) 34 = .ok (.ldc x, 2) ∧ 2 = 2 ∧ (((mN 58).cls, x), 58) ∈ sKl),
  List.forall_mem_cons.mpr ⟨(⟨rfl, mf_35, tw_t409, tw_t410, rfl, by decide, 180, (r_58 _ (List.mem_of_getElem? (i := 49) rfl)), Or.inl tw_t557⟩ : sm_F 58 36 (.invokevirtual 35) 3),
  List.forall_mem_cons.mpr ⟨(⟨by decide, by decide, rfl, 30, (r_58 _ (List.mem_of_getElem? (i := 50) rfl)), Or.inl tw_t159⟩ : sm_F 58 41 (.getfield 2) 3),
  List.forall_mem_cons.mpr ⟨(⟨rfl, mf_56, tw_t535, tw_t536, rfl, by decide, 172, (r_58 _ (List.mem_of_getElem? (i := 51) rfl)), Or.inl tw_t546⟩ : sm_F 58 46 (.invokevirtual 56) 3),
  List.forall_mem_cons.mpr ⟨(⟨by decide, by decide, rfl, 47, (r_58 _ (List.mem_of_getElem? (i := 52) rfl)), Or.inl tw_t163⟩ : sm_F 58 53 (.getfield 6) 3),
  List.forall_mem_cons.mpr ⟨(⟨by decide, by decide, rfl, 44, (r_58 _ (List.mem_of_getElem? (i := 53) rfl)), Or.inl tw_t162⟩ : sm_F 58 57 (.getfield 5) 3),
  List.forall_mem_cons.mpr ⟨(⟨183, (r_58 _ (List.mem_of_getElem? (i := 54) rfl)), rfl, by decide +kernel⟩ : ∃ x : Nat, decode (mB 58) 60 = .ok (.ldc x, 2) ∧ 2 = 2 ∧ (((mN 58).cls, x), 34) ∈ sKl),
  List.forall_mem_cons.mpr ⟨(⟨rfl, mf_24, tw_t340, tw_t341, rfl, by decide, 185, (r_58 _ (List.mem_of_getElem? (i := 55) rfl)), Or.inl tw_t559⟩ : sm_F 58 62 (.invokevirtual 24) 3),
  List.forall_mem_cons.mpr ⟨(⟨189, (r_58 _ (List.mem_of_getElem? (i := 56) rfl)), rfl, by decide +kernel⟩ : ∃ x : Nat, decode (mB 58) 68 = .ok (.ldc x, 2) ∧ 2 = 2 ∧ (((mN 58).cls, x), 60) ∈ sKl),
  List.forall_mem_cons.mpr ⟨(⟨191, (r_58 _ (List.mem_of_getElem? (i := 57) rfl)), rfl, by decide +kernel⟩ : ∃ x : Nat, decode (mB 58) 73 = .ok (.ldc x, 2) ∧ 2 = 2 ∧ (((mN 58).cls, x), 62) ∈ sKl),
  List.forall_mem_cons.mpr ⟨(⟨rfl, mf_35, tw_t409, tw_t410, rfl, by decide, 180, (r_58 _ (List.mem_of_getElem? (i := 58) rfl)), Or.inl tw_t557⟩ : sm_F 58 75 (.invokevirtual 35) 3),
  List.forall_mem_cons.mpr ⟨(⟨by decide, by decide, rfl, 44, (r_58 _ (List.mem_of_getElem? (i := 59) rfl)), Or.inl tw_t162⟩ : sm_F 58 82 (.getfield 5) 3),
  List.forall_mem_cons.mpr ⟨(⟨193, (r_58 _ (List.mem_of_getElem? (i := 60) rfl)), rfl, by decide +kernel⟩ : ∃ x : Nat, decode (mB 58) 85 = .ok (.ldc x, 2) ∧ 2 = 2 ∧ (((mN 58).cls, x), 8) ∈ sKl),
  List.forall_mem_cons.mpr ⟨(⟨rfl, mf_24, tw_t340, tw_t341, rfl, by decide, 185, (r_58 _ (List.mem_of_getElem? (i := 61) rfl)), Or.inl tw_t559⟩ : sm_F 58 87 (.invokevirtual 24) 3),
  List.forall_mem_cons.mpr ⟨(⟨by decide, by decide, rfl, 47, (r_58 _ (List.mem_of_getElem? (i := 62) rfl)), Or.inl tw_t163⟩ : sm_F 58 94 (.getfield 6) 3),
  List.forall_mem_cons.mpr ⟨(⟨195, (r_58 _ (List.mem_of_getElem? (i := 63) rfl)), rfl, by decide +kernel⟩ : ∃ x : Nat, decode (mB 58) 97 = .ok (.ldc x, 2) ∧ 2 = 2 ∧ (((mN 58).cls, x), 64) ∈ sKl),
  List.forall_mem_cons.mpr ⟨(⟨rfl, mf_35, tw_t409, tw_t410, rfl, by decide, 180, (r_58 _ (List.mem_of_getElem? (i := 64) rfl)), Or.inl tw_t557⟩ : sm_F 58 99 (.invokevirtual 35) 3),
  List.forall_mem_cons.mpr ⟨(⟨by decide, by decide, rfl, 47, (r_58 _ (List.mem_of_getElem? (i := 65) rfl)), Or.inl tw_t163⟩ : sm_F 58 106 (.getfield 6) 3),
  List.forall_mem_cons.mpr ⟨(⟨by decide, by decide, rfl, 30, (r_58 _ (List.mem_of_getElem? (i := 66) rfl)), Or.inl tw_t159⟩ : sm_F 58 110 (.getfield 2) 3),
  List.forall_mem_cons.mpr ⟨(⟨rfl, mf_41, tw_t436, tw_t437, rfl, by decide, 197, (r_58 _ (List.mem_of_getElem? (i := 67) rfl)), Or.inl tw_t564⟩ : sm_F 58 113 (.invokevirtual 41) 3),
  List.forall_mem_cons.mpr ⟨(⟨200, (r_58 _ (List.mem_of_getElem? (i := 68) rfl)), rfl, by decide +kernel⟩ : ∃ x : Nat, decode (mB 58) 119 = .ok (.ldc x, 2) ∧ 2 = 2 ∧ (((mN 58).cls, x), 66) ∈ sKl),
  List.forall_mem_cons.mpr ⟨(⟨202, (r_58 _ (List.mem_of_getElem? (i := 69) rfl)), rfl, by decide +kernel⟩ : ∃ x : Nat, decode (mB 58) 124 = .ok (.ldc x, 2) ∧ 2 = 2 ∧ (((mN 58).cls, x), 68) ∈ sKl),
  List.forall_mem_cons.mpr ⟨(⟨rfl, mf_35, tw_t409, tw_t410, rfl, by decide, 180, (r_58 _ (List.mem_of_getElem? (i := 70) rfl)), Or.inl tw_t557⟩ : sm_F 58 126 (.invokevirtual 35) 3),
  List.forall_mem_cons.mpr ⟨(⟨by decide, by decide, rfl, 47, (r_58 _ (List.mem_of_getElem? (i := 71) rfl)), Or.inl tw_t163⟩ : sm_F 58 130 (.getfield 6) 3),
  List.forall_mem_cons.mpr ⟨(⟨by decide, by decide, rfl, 44, (r_58 _ (List.mem_of_getElem? (i := 72) rfl)), Or.inl tw_t162⟩ : sm_F 58 134 (.getfield 5) 3),
  List.forall_mem_cons.mpr ⟨(⟨rfl, mf_59, tw_t548, tw_t549, rfl, by decide, 175, (r_58 _ (List.mem_of_getElem? (i := 73) rfl)), Or.inl tw_t547⟩ : sm_F 58 137 (.invokevirtual 59) 3),
  List.forall_mem_cons.mpr ⟨(⟨by decide, by decide, rfl, 47, (r_58 _ (List.mem_of_getElem? (i := 74) rfl)), Or.inl tw_t163⟩ : sm_F 58 141 (.getfield 6) 3),
  List.forall_mem_cons.mpr ⟨(⟨204, (r_58 _ (List.mem_of_getElem? (i := 75) rfl)), rfl, by decide +kernel⟩ : ∃ x : Nat, decode (mB 58) 144 = .ok (.ldc x, 2) ∧ 2 = 2 ∧ (((mN 58).cls, x), 6) ∈ sKl),
  List.forall_mem_cons.mpr ⟨(⟨rfl, mf_35, tw_t409, tw_t410, rfl, by decide, 180, (r_58 _ (List.mem_of_getElem? (i := 76) rfl)), Or.inl tw_t557⟩ : sm_F 58 146 (.invokevirtual 35) 3),
  List.forall_mem_cons.mpr ⟨(⟨by decide, by decide, rfl, 47, (r_58 _ (List.mem_of_getElem? (i := 77) rfl)), Or.inl tw_t163⟩ : sm_F 58 150 (.getfield 6) 3),
  List.forall_mem_cons.mpr ⟨(⟨by decide, by decide, rfl, 41, (r_58 _ (List.mem_of_getElem? (i := 78) rfl)), Or.inl tw_t161⟩ : sm_F 58 154 (.getfield 4) 3),
  List.forall_mem_cons.mpr ⟨(⟨rfl, mf_59, tw_t548, tw_t549, rfl, by decide, 175, (r_58 _ (List.mem_of_getElem? (i := 79) rfl)), Or.inl tw_t547⟩ : sm_F 58 157 (.invokevirtual 59) 3),
  List.forall_mem_cons.mpr ⟨(⟨by decide, by decide, rfl, 47, (r_58 _ (List.mem_of_getElem? (i := 80) rfl)), Or.inl tw_t163⟩ : sm_F 58 161 (.getfield 6) 3),
  List.forall_mem_cons.mpr ⟨(⟨by decide, by decide, rfl, 30, (r_58 _ (List.mem_of_getElem? (i := 81) rfl)), Or.inl tw_t159⟩ : sm_F 58 165 (.getfield 2) 3),
  List.forall_mem_cons.mpr ⟨(⟨rfl, mf_56, tw_t535, tw_t536, rfl, by decide, 172, (r_58 _ (List.mem_of_getElem? (i := 82) rfl)), Or.inl tw_t546⟩ : sm_F 58 170 (.invokevirtual 56) 3),
  List.forall_mem_cons.mpr ⟨(⟨206, (r_58 _ (List.mem_of_getElem? (i := 83) rfl)), rfl, by decide +kernel⟩ : ∃ x : Nat, decode (mB 58) 176 = .ok (.ldc x, 2) ∧ 2 = 2 ∧ (((mN 58).cls, x), 70) ∈ sKl),
  List.forall_mem_cons.mpr ⟨(⟨by decide, by decide, rfl, 30, (r_58 _ (List.mem_of_getElem? (i := 84) rfl)), Or.inl tw_t159⟩ : sm_F 58 182 (.getfield 2) 3),
  List.forall_mem_cons.mpr ⟨(⟨rfl, mf_56, tw_t535, tw_t536, rfl, by decide, 172, (r_58 _ (List.mem_of_getElem? (i := 85) rfl)), Or.inl tw_t546⟩ : sm_F 58 187 (.invokevirtual 56) 3),
  List.forall_mem_cons.mpr ⟨(⟨208, (r_58 _ (List.mem_of_getElem? (i := 86) rfl)), rfl, by decide +kernel⟩ : ∃ x : Nat, decode (mB 58) 193 = .ok (.ldc x, 2) ∧ 2 = 2 ∧ (((mN 58).cls, x), 72) ∈ sKl),
  List.forall_mem_cons.mpr ⟨(⟨210, (r_58 _ (List.mem_of_getElem? (i := 87) rfl)), rfl, by decide +kernel⟩ : ∃ x : Nat, decode (mB 58) 198 = .ok (.ldc x, 2) ∧ 2 = 2 ∧ (((mN 58).cls, x), 74) ∈ sKl),
  List.forall_mem_cons.mpr ⟨(⟨rfl, mf_35, tw_t409, tw_t410, rfl, by decide, 180, (r_58 _ (List.mem_of_getElem? (i := 88) rfl)), Or.inl tw_t557⟩ : sm_F 58 200 (.invokevirtual 35) 3),
  List.forall_mem_cons.mpr ⟨(⟨by decide, by decide, rfl, 47, (r_58 _ (List.mem_of_getElem? (i := 89) rfl)), Or.inl tw_t163⟩ : sm_F 58 204 (.getfield 6) 3),
  List.forall_mem_cons.mpr ⟨(⟨212, (r_58 _ (List.mem_of_getElem? (i := 90) rfl)), rfl, by decide +kernel⟩ : ∃ x : Nat, decode (mB 58) 207 = .ok (.ldc x, 2) ∧ 2 = 2 ∧ (((mN 58).cls, x), 76) ∈ sKl),
  List.forall_mem_cons.mpr ⟨(⟨rfl, mf_35, tw_t409, tw_t410, rfl, by decide, 180, (r_58 _ (List.mem_of_getElem? (i := 91) rfl)), Or.inl tw_t557⟩ : sm_F 58 209 (.invokevirtual 35) 3),
  fun _ h => absurd h List.not_mem_nil⟩⟩⟩⟩⟩⟩⟩⟩⟩⟩⟩⟩⟩⟩⟩⟩⟩⟩⟩⟩⟩⟩⟩⟩⟩⟩⟩⟩⟩⟩⟩⟩⟩⟩⟩⟩⟩⟩⟩⟩⟩⟩⟩⟩⟩⟩⟩⟩⟩⟩⟩⟩
theorem f_58 : ∀ q ∈ cd_58, sm_F 58 q.1 q.2.2.2 q.2.1 := List.forall_mem_append.mpr ⟨fs_58, fl_58⟩
theorem r_59 : ∀ q ∈ cd_59, decode (mB 59) q.1 = .ok (q.2.2.1, q.2.1) := sm_all (by decide +kernel)
theorem fs_59 : ∀ q ∈ sp_59, sm_F 59 q.1 q.2.2.2 q.2.1 := sm_rsl (fun q h => r_59 q (List.mem_append_left _ h)) (by decide +kernel)
theorem fl_59 : ∀ q ∈ lk_59, sm_F 59 q.1 q.2.2.2 q.2.1 := List.forall_mem_cons.mpr ⟨(⟨by decide, by decide, rfl, 15, (r_59 _ (List.mem_of_getElem? (i := 5) rfl)), Or.inl tw_t32⟩ : sm_F 59 4 (.getfield 33) 3),
  List.forall_mem_cons.mpr ⟨(⟨rfl, mf_60, tw_t552, tw_t553, rfl, by decide, 38, (r_59 _ (List.mem_of_getElem? (i := 6) rfl)), Or.inl tw_t551⟩ : sm_F 59 7 (.invokevirtual 60) 3),
  fun _ h => absurd h List.not_mem_nil⟩⟩
theorem f_59 : ∀ q ∈ cd_59, sm_F 59 q.1 q.2.2.2 q.2.1 := List.forall_mem_append.mpr ⟨fs_59, fl_59⟩
theorem r_60 : ∀ q ∈ cd_60, decode (mB 60) q.1 = .ok (q.2.2.1, q.2.1) := sm_all (by decide +kernel)
theorem fs_60 : ∀ q ∈ sp_60, sm_F 60 q.1 q.2.2.2 q.2.1 := sm_rsl (fun q h => r_60 q (List.mem_append_left _ h)) (by decide +kernel)
theorem fl_60 : ∀ q ∈ lk_60, sm_F 60 q.1 q.2.2.2 q.2.1 := List.forall_mem_cons.mpr ⟨(⟨rfl, mf_16, tw_t222, tw_t223, rfl, by decide, 41, (r_60 _ (List.mem_of_getElem? (i := 11) rfl)), Or.inl tw_t555⟩ : sm_F 60 13 (.invokevirtual 16) 3),
  List.forall_mem_cons.mpr ⟨(⟨rfl, mf_11, tw_t197, tw_t198, rfl, by decide, 34, (r_60 _ (List.mem_of_getElem? (i := 12) rfl)), Or.inl tw_t412⟩ : sm_F 60 16 (.invokevirtual 11) 3),
  fun _ h => absurd h List.not_mem_nil⟩⟩
theorem f_60 : ∀ q ∈ cd_60, sm_F 60 q.1 q.2.2.2 q.2.1 := List.forall_mem_append.mpr ⟨fs_60, fl_60⟩
theorem r_61 : ∀ q ∈ cd_61, decode (mB 61) q.1 = .ok (q.2.2.1, q.2.1) := sm_all (by decide +kernel)
theorem fs_61 : ∀ q ∈ sp_61, sm_F 61 q.1 q.2.2.2 q.2.1 := sm_rsl (fun q h => r_61 q (List.mem_append_left _ h)) (by decide +kernel)
theorem fl_61 : ∀ q ∈ lk_61, sm_F 61 q.1 q.2.2.2 q.2.1 := List.forall_mem_cons.mpr ⟨(⟨by decide, by decide, rfl, 47, (r_61 _ (List.mem_of_getElem? (i := 14) rfl)), Or.inl tw_t163⟩ : sm_F 61 1 (.getfield 6) 3),
  List.forall_mem_cons.mpr ⟨(⟨rfl, mf_10, tw_t193, tw_t194, rfl, by decide, 77, (r_61 _ (List.mem_of_getElem? (i := 15) rfl)), Or.inl tw_t192⟩ : sm_F 61 4 (.invokevirtual 10) 3),
  List.forall_mem_cons.mpr ⟨(⟨by decide, by decide, rfl, 53, (r_61 _ (List.mem_of_getElem? (i := 16) rfl)), Or.inl tw_t164⟩ : sm_F 61 17 (.getfield 7) 3),
  List.forall_mem_cons.mpr ⟨(⟨by decide, by decide, rfl, 47, (r_61 _ (List.mem_of_getElem? (i := 17) rfl)), Or.inl tw_t163⟩ : sm_F 61 21 (.getfield 6) 3),
  List.forall_mem_cons.mpr ⟨(⟨rfl, mf_62, tw_t577, tw_t578, rfl, by decide, 222, (r_61 _ (List.mem_of_getElem? (i := 18) rfl)), Or.inl tw_t576⟩ : sm_F 61 24 (.invokevirtual 62) 3),
  List.forall_mem_cons.mpr ⟨(⟨by decide, by decide, rfl, 53, (r_61 _ (List.mem_of_getElem? (i := 19) rfl)), Or.inl tw_t164⟩ : sm_F 61 34 (.getfield 7) 3),
  List.forall_mem_cons.mpr ⟨(⟨by decide, by decide, rfl, 47, (r_61 _ (List.mem_of_getElem? (i := 20) rfl)), Or.inl tw_t163⟩ : sm_F 61 38 (.getfield 6) 3),
  List.forall_mem_cons.mpr ⟨(⟨rfl, mf_64, tw_t585, tw_t586, rfl, by decide, 225, (r_61 _ (List.mem_of_getElem? (i := 21) rfl)), Or.inl tw_t584⟩ : sm_F 61 42 (.invokevirtual 64) 3),
  fun _ h => absurd h List.not_mem_nil⟩⟩⟩⟩⟩⟩⟩⟩
theorem f_61 : ∀ q ∈ cd_61, sm_F 61 q.1 q.2.2.2 q.2.1 := List.forall_mem_append.mpr ⟨fs_61, fl_61⟩
theorem r_62 : ∀ q ∈ cd_62, decode (mB 62) q.1 = .ok (q.2.2.1, q.2.1) := sm_all (by decide +kernel)
theorem fs_62 : ∀ q ∈ sp_62, sm_F 62 q.1 q.2.2.2 q.2.1 := sm_rsl (fun q h => r_62 q (List.mem_append_left _ h)) (by decide +kernel)
theorem fl_62 : ∀ q ∈ lk_62, sm_F 62 q.1 q.2.2.2 q.2.1 := List.forall_mem_cons.mpr ⟨(⟨by decide, by decide, rfl, 17, (r_62 _ (List.mem_of_getElem? (i := 16) rfl)), Or.inl tw_t112⟩ : sm_F 62 4 (.getfield 193) 3),
  List.forall_mem_cons.mpr ⟨(⟨by decide, by decide, rfl, 11, (r_62 _ (List.mem_of_getElem? (i := 17) rfl)), Or.inl tw_t111⟩ : sm_F 62 11 (.getfield 192) 3),
  List.forall_mem_cons.mpr ⟨(⟨rfl, mf_63, tw_t581, tw_t582, rfl, by decide, 24, (r_62 _ (List.mem_of_getElem? (i := 18) rfl)), Or.inl tw_t580⟩ : sm_F 62 17 (.invokevirtual 63) 3),
  fun _ h => absurd h List.not_mem_nil⟩⟩⟩
theorem f_62 : ∀ q ∈ cd_62, sm_F 62 q.1 q.2.2.2 q.2.1 := List.forall_mem_append.mpr ⟨fs_62, fl_62⟩
theorem r_63 : ∀ q ∈ cd_63, decode (mB 63) q.1 = .ok (q.2.2.1, q.2.1) := sm_all (by decide +kernel)
theorem fs_63 : ∀ q ∈ sp_63, sm_F 63 q.1 q.2.2.2 q.2.1 := sm_rsl (fun q h => r_63 q (List.mem_append_left _ h)) (by decide +kernel)
theorem fl_63 : ∀ q ∈ lk_63, sm_F 63 q.1 q.2.2.2 q.2.1 := List.forall_mem_cons.mpr ⟨(⟨by decide, by decide, rfl, 15, (r_63 _ (List.mem_of_getElem? (i := 23) rfl)), Or.inl tw_t32⟩ : sm_F 63 1 (.getfield 33) 3),
  List.forall_mem_cons.mpr ⟨(⟨by decide, by decide, rfl, 15, (r_63 _ (List.mem_of_getElem? (i := 24) rfl)), Or.inl tw_t32⟩ : sm_F 63 5 (.getfield 33) 3),
  List.forall_mem_cons.mpr ⟨(⟨by decide, by decide, rfl, 15, (r_63 _ (List.mem_of_getElem? (i := 25) rfl)), Or.inl tw_t32⟩ : sm_F 63 17 (.getfield 33) 3),
  List.forall_mem_cons.mpr ⟨(⟨by decide, by decide, rfl, 9, (r_63 _ (List.mem_of_getElem? (i := 26) rfl)), Or.inl tw_t31⟩ : sm_F 63 24 (.getfield 32) 3),
  List.forall_mem_cons.mpr ⟨(⟨by decide, by decide, rfl, 9, (r_63 _ (List.mem_of_getElem? (i := 27) rfl)), Or.inl tw_t31⟩ : sm_F 63 30 (.getfield 32) 3),
  fun _ h => absurd h List.not_mem_nil⟩⟩⟩⟩⟩
theorem f_63 : ∀ q ∈ cd_63, sm_F 63 q.1 q.2.2.2 q.2.1 := List.forall_mem_append.mpr ⟨fs_63, fl_63⟩
theorem r_64 : ∀ q ∈ cd_64, decode (mB 64) q.1 = .ok (q.2.2.1, q.2.1) := sm_all (by decide +kernel)
theorem fs_64 : ∀ q ∈ sp_64, sm_F 64 q.1 q.2.2.2 q.2.1 := sm_rsl (fun q h => r_64 q (List.mem_append_left _ h)) (by decide +kernel)
theorem fl_64 : ∀ q ∈ lk_64, sm_F 64 q.1 q.2.2.2 q.2.1 := List.forall_mem_cons.mpr ⟨(⟨rfl, mf_32, tw_t395, tw_t396, rfl, by decide, 28, (r_64 _ (List.mem_of_getElem? (i := 29) rfl)), Or.inl tw_t588⟩ : sm_F 64 1 (.invokevirtual 32) 3),
  List.forall_mem_cons.mpr ⟨(⟨by decide, by decide, rfl, 11, (r_64 _ (List.mem_of_getElem? (i := 30) rfl)), Or.inl tw_t111⟩ : sm_F 64 11 (.getfield 192) 3),
  List.forall_mem_cons.mpr ⟨(⟨by decide, by decide, rfl, 17, (r_64 _ (List.mem_of_getElem? (i := 31) rfl)), Or.inl tw_t112⟩ : sm_F 64 15 (.getfield 193) 3),
  List.forall_mem_cons.mpr ⟨(⟨by decide, rfl, 9, (r_64 _ (List.mem_of_getElem? (i := 32) rfl)), tw_t109, tw_t26, tw_t2⟩ : sm_F 64 18 (.new 1) 3),
  List.forall_mem_cons.mpr ⟨(⟨rfl, mf_10, tw_t193, tw_t194, rfl, by decide, 32, (r_64 _ (List.mem_of_getElem? (i := 33) rfl)), Or.inl tw_t589⟩ : sm_F 64 23 (.invokevirtual 10) 3),
  List.forall_mem_cons.mpr ⟨(⟨rfl, mf_2, tw_t28, rfl, rfl, 36, (r_64 _ (List.mem_of_getElem? (i := 34) rfl)), Or.inl tw_t590⟩ : sm_F 64 26 (.invokespecial 2) 3),
  List.forall_mem_cons.mpr ⟨(⟨by decide, by decide, rfl, 11, (r_64 _ (List.mem_of_getElem? (i := 35) rfl)), Or.inl tw_t111⟩ : sm_F 64 31 (.getfield 192) 3),
  List.forall_mem_cons.mpr ⟨(⟨by decide, by decide, rfl, 17, (r_64 _ (List.mem_of_getElem? (i := 36) rfl)), Or.inl tw_t112⟩ : sm_F 64 35 (.getfield 193) 3),
  List.forall_mem_cons.mpr ⟨(⟨rfl, mf_59, tw_t548, tw_t549, rfl, by decide, 39, (r_64 _ (List.mem_of_getElem? (i := 37) rfl)), Or.inl tw_t591⟩ : sm_F 64 40 (.invokevirtual 59) 3),
  List.forall_mem_cons.mpr ⟨(⟨by decide, by decide, rfl, 17, (r_64 _ (List.mem_of_getElem? (i := 38) rfl)), Or.inl tw_t112⟩ : sm_F 64 45 (.getfield 193) 3),
  List.forall_mem_cons.mpr ⟨(⟨by decide, by decide, rfl, 17, (r_64 _ (List.mem_of_getElem? (i := 39) rfl)), Or.inl ⟨rfl, Or.inl tw_t112⟩⟩ : sm_F 64 50 (.putfield 193) 3),
  List.forall_mem_cons.mpr ⟨(⟨by decide, by decide, rfl, 21, (r_64 _ (List.mem_of_getElem? (i := 40) rfl)), Or.inl tw_t113⟩ : sm_F 64 55 (.getfield 194) 3),
  List.forall_mem_cons.mpr ⟨(⟨by decide, by decide, rfl, 21, (r_64 _ (List.mem_of_getElem? (i := 41) rfl)), Or.inl ⟨rfl, Or.inl tw_t113⟩⟩ : sm_F 64 68 (.putfield 194) 3),
  List.forall_mem_cons.mpr ⟨(⟨by decide, by decide, rfl, 17, (r_64 _ (List.mem_of_getElem? (i := 42) rfl)), Or.inl tw_t112⟩ : sm_F 64 72 (.getfield 193) 3),
  fun _ h => absurd h List.not_mem_nil⟩⟩⟩⟩⟩⟩⟩⟩⟩⟩⟩⟩⟩⟩
theorem f_64 : ∀ q ∈ cd_64, sm_F 64 q.1 q.2.2.2 q.2.1 := List.forall_mem_append.mpr ⟨fs_64, fl_64⟩
theorem r_65 : ∀ q ∈ cd_65, decode (mB 65) q.1 = .ok (q.2.2.1, q.2.1) := sm_all (by decide +kernel)
theorem fs_65 : ∀ q ∈ sp_65, sm_F 65 q.1 q.2.2.2 q.2.1 := sm_rsl (fun q h => r_65 q (List.mem_append_left _ h)) (by decide +kernel)
theorem fl_65 : ∀ q ∈ lk_65, sm_F 65 q.1 q.2.2.2 q.2.1 := List.forall_mem_cons.mpr ⟨(⟨by decide, by decide, rfl, 14, (r_65 _ (List.mem_of_getElem? (i := 24) rfl)), Or.inl tw_t157⟩ : sm_F 65 1 (.getfield 0) 3),
  List.forall_mem_cons.mpr ⟨(⟨rfl, mf_66, tw_t597, tw_t598, rfl, by decide, 136, (r_65 _ (List.mem_of_getElem? (i := 25) rfl)), Or.inl tw_t596⟩ : sm_F 65 4 (.invokevirtual 66) 3),
  List.forall_mem_cons.mpr ⟨(⟨by decide, by decide, rfl, 53, (r_65 _ (List.mem_of_getElem? (i := 26) rfl)), Or.inl tw_t164⟩ : sm_F 65 25 (.getfield 7) 3),
  List.forall_mem_cons.mpr ⟨(⟨rfl, mf_32, tw_t395, tw_t396, rfl, by decide, 114, (r_65 _ (List.mem_of_getElem? (i := 27) rfl)), Or.inl tw_t394⟩ : sm_F 65 28 (.invokevirtual 32) 3),
  List.forall_mem_cons.mpr ⟨(⟨by decide, by decide, rfl, 37, (r_65 _ (List.mem_of_getElem? (i := 28) rfl)), Or.inl tw_t160⟩ : sm_F 65 35 (.getfield 3) 3),
  List.forall_mem_cons.mpr ⟨(⟨by decide, by decide, rfl, 21, (r_65 _ (List.mem_of_getElem? (i := 29) rfl)), Or.inl tw_t158⟩ : sm_F 65 39 (.getfield 1) 3),
  List.forall_mem_cons.mpr ⟨(⟨by decide, by decide, rfl, 41, (r_65 _ (List.mem_of_getElem? (i := 30) rfl)), Or.inl tw_t161⟩ : sm_F 65 43 (.getfield 4) 3),
  List.forall_mem_cons.mpr ⟨(⟨rfl, mf_33, tw_t399, tw_t400, rfl, by decide, 118, (r_65 _ (List.mem_of_getElem? (i := 31) rfl)), Or.inl tw_t398⟩ : sm_F 65 46 (.invokevirtual 33) 3),
  List.forall_mem_cons.mpr ⟨(⟨by decide, by decide, rfl, 37, (r_65 _ (List.mem_of_getElem? (i := 32) rfl)), Or.inl tw_t160⟩ : sm_F 65 51 (.getfield 3) 3),
  List.forall_mem_cons.mpr ⟨(⟨rfl, mf_26, tw_t371, tw_t372, rfl, by decide, 102, (r_65 _ (List.mem_of_getElem? (i := 33) rfl)), Or.inl tw_t370⟩ : sm_F 65 54 (.invokevirtual 26) 3),
  List.forall_mem_cons.mpr ⟨(⟨rfl, mf_57, tw_t539, tw_t540, rfl, by decide, 126, (r_65 _ (List.mem_of_getElem? (i := 34) rfl)), Or.inl tw_t538⟩ : sm_F 65 57 (.invokevirtual 57) 3),
  List.forall_mem_cons.mpr ⟨(⟨by decide, by decide, rfl, 57, (r_65 _ (List.mem_of_getElem? (i := 35) rfl)), Or.inl ⟨rfl, Or.inl tw_t166⟩⟩ : sm_F 65 60 (.putfield 9) 3),
  List.forall_mem_cons.mpr ⟨(⟨rfl, mf_67, tw_t602, tw_p10, rfl, by decide, 139, (r_65 _ (List.mem_of_getElem? (i := 36) rfl)), Or.inl tw_t600⟩ : sm_F 65 64 (.invokevirtual 67) 3),
  List.forall_mem_cons.mpr ⟨(⟨rfl, mf_61, tw_t574, tw_p9, rfl, by decide, 132, (r_65 _ (List.mem_of_getElem? (i := 37) rfl)), Or.inl tw_t572⟩ : sm_F 65 69 (.invokevirtual 61) 3),
  List.forall_mem_cons.mpr ⟨(⟨by decide, by decide, rfl, 14, (r_65 _ (List.mem_of_getElem? (i := 38) rfl)), Or.inl tw_t157⟩ : sm_F 65 74 (.getfield 0) 3),
  List.forall_mem_cons.mpr ⟨(⟨rfl, mf_18, tw_t315, tw_t316, rfl, by decide, 99, (r_65 _ (List.mem_of_getElem? (i := 39) rfl)), Or.inl tw_t314⟩ : sm_F 65 77 (.invokevirtual 18) 3),
  fun _ h => absurd h List.not_mem_nil⟩⟩⟩⟩⟩⟩⟩⟩⟩⟩⟩⟩⟩⟩⟩⟩
theorem f_65 : ∀ q ∈ cd_65, sm_F 65 q.1 q.2.2.2 q.2.1 := List.forall_mem_append.mpr ⟨fs_65, fl_65⟩
theorem r_66 : ∀ q ∈ cd_66, decode (mB 66) q.1 = .ok (q.2.2.1, q.2.1) := sm_all (by decide +kernel)
theorem fs_66 : ∀ q ∈ sp_66, sm_F 66 q.1 q.2.2.2 q.2.1 := sm_rsl (fun q h => r_66 q (List.mem_append_left _ h)) (by decide +kernel)
theorem fl_66 : ∀ q ∈ lk_66, sm_F 66 q.1 q.2.2.2 q.2.1 := List.forall_mem_cons.mpr ⟨(⟨by decide, by decide, rfl, 15, (r_66 _ (List.mem_of_getElem? (i := 31) rfl)), Or.inl tw_t32⟩ : sm_F 66 4 (.getfield 33) 3),
  List.forall_mem_cons.mpr ⟨(⟨by decide, by decide, rfl, 9, (r_66 _ (List.mem_of_getElem? (i := 32) rfl)), Or.inl tw_t31⟩ : sm_F 66 11 (.getfield 32) 3),
  List.forall_mem_cons.mpr ⟨(⟨by decide, by decide, rfl, 15, (r_66 _ (List.mem_of_getElem? (i := 33) rfl)), Or.inl tw_t32⟩ : sm_F 66 50 (.getfield 33) 3),
  fun _ h => absurd h List.not_mem_nil⟩⟩⟩
theorem f_66 : ∀ q ∈ cd_66, sm_F 66 q.1 q.2.2.2 q.2.1 := List.forall_mem_append.mpr ⟨fs_66, fl_66⟩
theorem r_67 : ∀ q ∈ cd_67, decode (mB 67) q.1 = .ok (q.2.2.1, q.2.1) := sm_all (by decide +kernel)
theorem fs_67 : ∀ q ∈ sp_67, sm_F 67 q.1 q.2.2.2 q.2.1 := sm_rsl (fun q h => r_67 q (List.mem_append_left _ h)) (by decide +kernel)
theorem fl_67 : ∀ q ∈ lk_67, sm_F 67 q.1 q.2.2.2 q.2.1 := List.forall_mem_cons.mpr ⟨(⟨by decide, by decide, rfl, 47, (r_67 _ (List.mem_of_getElem? (i := 12) rfl)), Or.inl tw_t163⟩ : sm_F 67 1 (.getfield 6) 3),
  List.forall_mem_cons.mpr ⟨(⟨rfl, mf_18, tw_t315, tw_t316, rfl, by decide, 99, (r_67 _ (List.mem_of_getElem? (i := 13) rfl)), Or.inl tw_t314⟩ : sm_F 67 4 (.invokevirtual 18) 3),
  List.forall_mem_cons.mpr ⟨(⟨by decide, by decide, rfl, 47, (r_67 _ (List.mem_of_getElem? (i := 14) rfl)), Or.inl tw_t163⟩ : sm_F 67 8 (.getfield 6) 3),
  List.forall_mem_cons.mpr ⟨(⟨214, (r_67 _ (List.mem_of_getElem? (i := 15) rfl)), rfl, by decide +kernel⟩ : ∃ x : Nat, decode (mB 67) 11 = .ok (.ldc x, 2) ∧ 2 = 2 ∧ (((mN 67).cls, x), 78) ∈ sKl),
  List.forall_mem_cons.mpr ⟨(⟨rfl, mf_35, tw_t409, tw_t410, rfl, by decide, 180, (r_67 _ (List.mem_of_getElem? (i := 16) rfl)), Or.inl tw_t557⟩ : sm_F 67 13 (.invokevirtual 35) 3),
  List.forall_mem_cons.mpr ⟨(⟨by decide, by decide, rfl, 47, (r_67 _ (List.mem_of_getElem? (i := 17) rfl)), Or.inl tw_t163⟩ : sm_F 67 17 (.getfield 6) 3),
  List.forall_mem_cons.mpr ⟨(⟨by decide, by decide, rfl, 41, (r_67 _ (List.mem_of_getElem? (i := 18) rfl)), Or.inl tw_t161⟩ : sm_F 67 21 (.getfield 4) 3),
  List.forall_mem_cons.mpr ⟨(⟨rfl, mf_59, tw_t548, tw_t549, rfl, by decide, 175, (r_67 _ (List.mem_of_getElem? (i := 19) rfl)), Or.inl tw_t547⟩ : sm_F 67 24 (.invokevirtual 59) 3),
  List.forall_mem_cons.mpr ⟨(⟨by decide, by decide, rfl, 47, (r_67 _ (List.mem_of_getElem? (i := 20) rfl)), Or.inl tw_t163⟩ : sm_F 67 28 (.getfield 6) 3),
  List.forall_mem_cons.mpr ⟨(⟨216, (r_67 _ (List.mem_of_getElem? (i := 21) rfl)), rfl, by decide +kernel⟩ : ∃ x : Nat, decode (mB 67) 31 = .ok (.ldc x, 2) ∧ 2 = 2 ∧ (((mN 67).cls, x), 80) ∈ sKl),
  List.forall_mem_cons.mpr ⟨(⟨rfl, mf_35, tw_t409, tw_t410, rfl, by decide, 180, (r_67 _ (List.mem_of_getElem? (i := 22) rfl)), Or.inl tw_t557⟩ : sm_F 67 33 (.invokevirtual 35) 3),
  List.forall_mem_cons.mpr ⟨(⟨by decide, by decide, rfl, 47, (r_67 _ (List.mem_of_getElem? (i := 23) rfl)), Or.inl tw_t163⟩ : sm_F 67 37 (.getfield 6) 3),
  List.forall_mem_cons.mpr ⟨(⟨by decide, by decide, rfl, 14, (r_67 _ (List.mem_of_getElem? (i := 24) rfl)), Or.inl tw_t157⟩ : sm_F 67 41 (.getfield 0) 3),
  List.forall_mem_cons.mpr ⟨(⟨rfl, mf_59, tw_t548, tw_t549, rfl, by decide, 175, (r_67 _ (List.mem_of_getElem? (i := 25) rfl)), Or.inl tw_t547⟩ : sm_F 67 44 (.invokevirtual 59) 3),
  List.forall_mem_cons.mpr ⟨(⟨by decide, by decide, rfl, 47, (r_67 _ (List.mem_of_getElem? (i := 26) rfl)), Or.inl tw_t163⟩ : sm_F 67 48 (.getfield 6) 3),
  List.forall_mem_cons.mpr ⟨(⟨218, (r_67 _ (List.mem_of_getElem? (i := 27) rfl)), rfl, by decide +kernel⟩ : ∃ x : Nat, decode (mB 67) 51 = .ok (.ldc x, 2) ∧ 2 = 2 ∧ (((mN 67).cls, x), 82) ∈ sKl),
  List.forall_mem_cons.mpr ⟨(⟨rfl, mf_35, tw_t409, tw_t410, rfl, by decide, 180, (r_67 _ (List.mem_of_getElem? (i := 28) rfl)), Or.inl tw_t557⟩ : sm_F 67 53 (.invokevirtual 35) 3),
  List.forall_mem_cons.mpr ⟨(⟨by decide, by decide, rfl, 47, (r_67 _ (List.mem_of_getElem? (i := 29) rfl)), Or.inl tw_t163⟩ : sm_F 67 57 (.getfield 6) 3),
  List.forall_mem_cons.mpr ⟨(⟨by decide, by decide, rfl, 14, (r_67 _ (List.mem_of_getElem? (i := 30) rfl)), Or.inl tw_t157⟩ : sm_F 67 61 (.getfield 0) 3),
  List.forall_mem_cons.mpr ⟨(⟨rfl, mf_59, tw_t548, tw_t549, rfl, by decide, 175, (r_67 _ (List.mem_of_getElem? (i := 31) rfl)), Or.inl tw_t547⟩ : sm_F 67 64 (.invokevirtual 59) 3),
  List.forall_mem_cons.mpr ⟨(⟨by decide, by decide, rfl, 47, (r_67 _ (List.mem_of_getElem? (i := 32) rfl)), Or.inl tw_t163⟩ : sm_F 67 68 (.getfield 6) 3),
  List.forall_mem_cons.mpr ⟨(⟨220, (r_67 _ (List.mem_of_getElem? (i := 33) rfl)), rfl, by decide +kernel⟩ : ∃ x : Nat, decode (mB 67) 71 = .ok (.ldc x, 2) ∧ 2 = 2 ∧ (((mN 67).cls, x), 84) ∈ sKl),
  List.forall_mem_cons.mpr ⟨(⟨rfl, mf_35, tw_t409, tw_t410, rfl, by decide, 180, (r_67 _ (List.mem_of_getElem? (i := 34) rfl)), Or.inl tw_t557⟩ : sm_F 67 73 (.invokevirtual 35) 3),
  fun _ h => absurd h List.not_mem_nil⟩⟩⟩⟩⟩⟩⟩⟩⟩⟩⟩⟩⟩⟩⟩⟩⟩⟩⟩⟩⟩⟩⟩
theorem f_67 : ∀ q ∈ cd_67, sm_F 67 q.1 q.2.2.2 q.2.1 := List.forall_mem_append.mpr ⟨fs_67, fl_67⟩
theorem r_68 : ∀ q ∈ cd_68, decode (mB 68) q.1 = .ok (q.2.2.1, q.2.1) := sm_all (by decide +kernel)
theorem fs_68 : ∀ q ∈ sp_68, sm_F 68 q.1 q.2.2.2 q.2.1 := sm_rsl (fun q h => r_68 q (List.mem_append_left _ h)) (by decide +kernel)
theorem fl_68 : ∀ q ∈ lk_68, sm_F 68 q.1 q.2.2.2 q.2.1 := List.forall_mem_cons.mpr ⟨(⟨by decide, by decide, rfl, 57, (r_68 _ (List.mem_of_getElem? (i := 2) rfl)), Or.inl tw_t166⟩ : sm_F 68 1 (.getfield 9) 3),
  fun _ h => absurd h List.not_mem_nil⟩
theorem f_68 : ∀ q ∈ cd_68, sm_F 68 q.1 q.2.2.2 q.2.1 := List.forall_mem_append.mpr ⟨fs_68, fl_68⟩
theorem r_69 : ∀ q ∈ cd_69, decode (mB 69) q.1 = .ok (q.2.2.1, q.2.1) := sm_all (by decide +kernel)
theorem fs_69 : ∀ q ∈ sp_69, sm_F 69 q.1 q.2.2.2 q.2.1 := sm_rsl (fun q h => r_69 q (List.mem_append_left _ h)) (by decide +kernel)
theorem fl_69 : ∀ q ∈ lk_69, sm_F 69 q.1 q.2.2.2 q.2.1 := List.forall_mem_cons.mpr ⟨(⟨by decide, by decide, rfl, 53, (r_69 _ (List.mem_of_getElem? (i := 5) rfl)), Or.inl tw_t164⟩ : sm_F 69 1 (.getfield 7) 3),
  List.forall_mem_cons.mpr ⟨(⟨rfl, mf_70, tw_t617, tw_t618, rfl, by decide, 142, (r_69 _ (List.mem_of_getElem? (i := 6) rfl)), Or.inl tw_t616⟩ : sm_F 69 4 (.invokevirtual 70) 3),
  List.forall_mem_cons.mpr ⟨(⟨by decide, by decide, rfl, 53, (r_69 _ (List.mem_of_getElem? (i := 7) rfl)), Or.inl tw_t164⟩ : sm_F 69 9 (.getfield 7) 3),
  List.forall_mem_cons.mpr ⟨(⟨rfl, mf_71, tw_t621, tw_t622, rfl, by decide, 143, (r_69 _ (List.mem_of_getElem? (i := 8) rfl)), Or.inl tw_t620⟩ : sm_F 69 12 (.invokevirtual 71) 3),
  fun _ h => absurd h List.not_mem_nil⟩⟩⟩⟩
theorem f_69 : ∀ q ∈ cd_69, sm_F 69 q.1 q.2.2.2 q.2.1 := List.forall_mem_append.mpr ⟨fs_69, fl_69⟩
theorem r_70 : ∀ q ∈ cd_70, decode (mB 70) q.1 = .ok (q.2.2.1, q.2.1) := sm_all (by decide +kernel)
theorem fs_70 : ∀ q ∈ sp_70, sm_F 70 q.1 q.2.2.2 q.2.1 := sm_rsl (fun q h => r_70 q (List.mem_append_left _ h)) (by decide +kernel)
theorem fl_70 : ∀ q ∈ lk_70, sm_F 70 q.1 q.2.2.2 q.2.1 := List.forall_mem_cons.mpr ⟨(⟨by decide, by decide, rfl, 17, (r_70 _ (List.mem_of_getElem? (i := 2) rfl)), Or.inl tw_t112⟩ : sm_F 70 1 (.getfield 193) 3),
  fun _ h => absurd h List.not_mem_nil⟩
theorem f_70 : ∀ q ∈ cd_70, sm_F 70 q.1 q.2.2.2 q.2.1 := List.forall_mem_append.mpr ⟨fs_70, fl_70⟩
theorem r_71 : ∀ q ∈ cd_71, decode (mB 71) q.1 = .ok (q.2.2.1, q.2.1) := sm_all (by decide +kernel)
theorem fs_71 : ∀ q ∈ sp_71, sm_F 71 q.1 q.2.2.2 q.2.1 := sm_rsl (fun q h => r_71 q (List.mem_append_left _ h)) (by decide +kernel)
theorem fl_71 : ∀ q ∈ lk_71, sm_F 71 q.1 q.2.2.2 q.2.1 := List.forall_mem_cons.mpr ⟨(⟨by decide, by decide, rfl, 17, (r_71 _ (List.mem_of_getElem? (i := 5) rfl)), Or.inl ⟨rfl, Or.inl tw_t112⟩⟩ : sm_F 71 2 (.putfield 193) 3),
  List.forall_mem_cons.mpr ⟨(⟨by decide, by decide, rfl, 21, (r_71 _ (List.mem_of_getElem? (i := 6) rfl)), Or.inl ⟨rfl, Or.inl tw_t113⟩⟩ : sm_F 71 7 (.putfield 194) 3),
  fun _ h => absurd h List.not_mem_nil⟩⟩
theorem f_71 : ∀ q ∈ cd_71, sm_F 71 q.1 q.2.2.2 q.2.1 := List.forall_mem_append.mpr ⟨fs_71, fl_71⟩
theorem r_72 : ∀ q ∈ cd_72, decode (mB 72) q.1 = .ok (q.2.2.1, q.2.1) := sm_all (by decide +kernel)
theorem fs_72 : ∀ q ∈ sp_72, sm_F 72 q.1 q.2.2.2 q.2.1 := sm_rsl (fun q h => r_72 q (List.mem_append_left _ h)) (by decide +kernel)
theorem fl_72 : ∀ q ∈ lk_72, sm_F 72 q.1 q.2.2.2 q.2.1 := List.forall_mem_cons.mpr ⟨(⟨by decide, by decide, rfl, 73, (r_72 _ (List.mem_of_getElem? (i := 4) rfl)), Or.inl tw_t165⟩ : sm_F 72 1 (.getfield 8) 3),
  List.forall_mem_cons.mpr ⟨(⟨by decide, by decide, rfl, 53, (r_72 _ (List.mem_of_getElem? (i := 5) rfl)), Or.inl tw_t164⟩ : sm_F 72 5 (.getfield 7) 3),
  List.forall_mem_cons.mpr ⟨(⟨rfl, mf_73, tw_t629, tw_t630, rfl, by decide, 144, (r_72 _ (List.mem_of_getElem? (i := 6) rfl)), Or.inl tw_t628⟩ : sm_F 72 8 (.invokevirtual 73) 3),
  List.forall_mem_cons.mpr ⟨(⟨by decide, by decide, rfl, 73, (r_72 _ (List.mem_of_getElem? (i := 7) rfl)), Or.inl tw_t165⟩ : sm_F 72 12 (.getfield 8) 3),
  List.forall_mem_cons.mpr ⟨(⟨rfl, mf_82, tw_t680, tw_t681, rfl, by decide, 148, (r_72 _ (List.mem_of_getElem? (i := 8) rfl)), Or.inl tw_t679⟩ : sm_F 72 15 (.invokevirtual 82) 3),
  fun _ h => absurd h List.not_mem_nil⟩⟩⟩⟩⟩
theorem f_72 : ∀ q ∈ cd_72, sm_F 72 q.1 q.2.2.2 q.2.1 := List.forall_mem_append.mpr ⟨fs_72, fl_72⟩
theorem r_73 : ∀ q ∈ cd_73, decode (mB 73) q.1 = .ok (q.2.2.1, q.2.1) := sm_all (by decide +kernel)
theorem fs_73 : ∀ q ∈ sp_73, sm_F 73 q.1 q.2.2.2 q.2.1 := sm_rsl (fun q h => r_73 q (List.mem_append_left _ h)) (by decide +kernel)
theorem fl_73 : ∀ q ∈ lk_73, sm_F 73 q.1 q.2.2.2 q.2.1 := List.forall_mem_cons.mpr ⟨(⟨rfl, mf_74, tw_t634, tw_p11, rfl, by decide, 45, (r_73 _ (List.mem_of_getElem? (i := 24) rfl)), Or.inl tw_t632⟩ : sm_F 73 1 (.invokevirtual 74) 3),
  List.forall_mem_cons.mpr ⟨(⟨48, (r_73 _ (List.mem_of_getElem? (i := 25) rfl)), rfl, by decide +kernel⟩ : ∃ x : Nat, decode (mB 73) 5 = .ok (.ldc x, 2) ∧ 2 = 2 ∧ (((mN 73).cls, x), 86) ∈ sKl),
  List.forall_mem_cons.mpr ⟨(⟨rfl, mf_75, tw_t640, tw_p12, rfl, by decide, 50, (r_73 _ (List.mem_of_getElem? (i := 26) rfl)), Or.inl tw_t638⟩ : sm_F 73 7 (.invokevirtual 75) 3),
  List.forall_mem_cons.mpr ⟨(⟨rfl, mf_70, tw_t617, tw_t618, rfl, by decide, 54, (r_73 _ (List.mem_of_getElem? (i := 27) rfl)), Or.inl tw_t651⟩ : sm_F 73 14 (.invokevirtual 70) 3),
  List.forall_mem_cons.mpr ⟨(⟨rfl, mf_76, tw_t645, tw_p13, rfl, by decide, 59, (r_73 _ (List.mem_of_getElem? (i := 28) rfl)), Or.inl tw_t643⟩ : sm_F 73 25 (.invokevirtual 76) 3),
  List.forall_mem_cons.mpr ⟨(⟨62, (r_73 _ (List.mem_of_getElem? (i := 29) rfl)), rfl, by decide +kernel⟩ : ∃ x : Nat, decode (mB 73) 29 = .ok (.ldc x, 2) ∧ 2 = 2 ∧ (((mN 73).cls, x), 88) ∈ sKl),
  List.forall_mem_cons.mpr ⟨(⟨rfl, mf_75, tw_t640, tw_p12, rfl, by decide, 50, (r_73 _ (List.mem_of_getElem? (i := 30) rfl)), Or.inl tw_t638⟩ : sm_F 73 31 (.invokevirtual 75) 3),
  List.forall_mem_cons.mpr ⟨(⟨by decide, by decide, rfl, 14, (r_73 _ (List.mem_of_getElem? (i := 31) rfl)), Or.inl tw_t136⟩ : sm_F 73 35 (.getfield 225) 3),
  List.forall_mem_cons.mpr ⟨(⟨64, (r_73 _ (List.mem_of_getElem? (i := 32) rfl)), rfl, by decide +kernel⟩ : ∃ x : Nat, decode (mB 73) 38 = .ok (.ldc x, 2) ∧ 2 = 2 ∧ (((mN 73).cls, x), 90) ∈ sKl),
  List.forall_mem_cons.mpr ⟨(⟨rfl, mf_35, tw_t409, tw_t410, rfl, by decide, 66, (r_73 _ (List.mem_of_getElem? (i := 33) rfl)), Or.inl tw_t642⟩ : sm_F 73 40 (.invokevirtual 35) 3),
  List.forall_mem_cons.mpr ⟨(⟨by decide, by decide, rfl, 14, (r_73 _ (List.mem_of_getElem? (i := 34) rfl)), Or.inl tw_t136⟩ : sm_F 73 44 (.getfield 225) 3),
  List.forall_mem_cons.mpr ⟨(⟨rfl, mf_47, tw_t480, tw_t481, rfl, by decide, 69, (r_73 _ (List.mem_of_getElem? (i := 35) rfl)), Or.inl tw_t654⟩ : sm_F 73 49 (.invokevirtual 47) 3),
  List.forall_mem_cons.mpr ⟨(⟨73, (r_73 _ (List.mem_of_getElem? (i := 36) rfl)), rfl, by decide +kernel⟩ : ∃ x : Nat, decode (mB 73) 53 = .ok (.ldc x, 2) ∧ 2 = 2 ∧ (((mN 73).cls, x), 92) ∈ sKl),
  List.forall_mem_cons.mpr ⟨(⟨rfl, mf_75, tw_t640, tw_p12, rfl, by decide, 50, (r_73 _ (List.mem_of_getElem? (i := 37) rfl)), Or.inl tw_t638⟩ : sm_F 73 55 (.invokevirtual 75) 3),
  List.forall_mem_cons.mpr ⟨(⟨rfl, mf_77, tw_t657, tw_t658, rfl, by decide, 75, (r_73 _ (List.mem_of_getElem? (i := 38) rfl)), Or.inl tw_t656⟩ : sm_F 73 61 (.invokevirtual 77) 3),
  List.forall_mem_cons.mpr ⟨(⟨rfl, mf_78, tw_t662, tw_p14, rfl, by decide, 79, (r_73 _ (List.mem_of_getElem? (i := 39) rfl)), Or.inl tw_t660⟩ : sm_F 73 64 (.invokevirtual 78) 3),
  List.forall_mem_cons.mpr ⟨(⟨83, (r_73 _ (List.mem_of_getElem? (i := 40) rfl)), rfl, by decide +kernel⟩ : ∃ x : Nat, decode (mB 73) 68 = .ok (.ldc x, 2) ∧ 2 = 2 ∧ (((mN 73).cls, x), 94) ∈ sKl),
  List.forall_mem_cons.mpr ⟨(⟨rfl, mf_75, tw_t640, tw_p12, rfl, by decide, 50, (r_73 _ (List.mem_of_getElem? (i := 41) rfl)), Or.inl tw_t638⟩ : sm_F 73 70 (.invokevirtual 75) 3),
  List.forall_mem_cons.mpr ⟨(⟨85, (r_73 _ (List.mem_of_getElem? (i := 42) rfl)), rfl, by decide +kernel⟩ : ∃ x : Nat, decode (mB 73) 80 = .ok (.ldc x, 2) ∧ 2 = 2 ∧ (((mN 73).cls, x), 96) ∈ sKl),
  List.forall_mem_cons.mpr ⟨(⟨rfl, mf_75, tw_t640, tw_p12, rfl, by decide, 50, (r_73 _ (List.mem_of_getElem? (i := 43) rfl)), Or.inl tw_t638⟩ : sm_F 73 82 (.invokevirtual 75) 3),
  fun _ h => absurd h List.not_mem_nil⟩⟩⟩⟩⟩⟩⟩⟩⟩⟩⟩⟩⟩⟩⟩⟩⟩⟩⟩⟩
theorem f_73 : ∀ q ∈ cd_73, sm_F 73 q.1 q.2.2.2 q.2.1 := List.forall_mem_append.mpr ⟨fs_73, fl_73⟩
theorem r_74 : ∀ q ∈ cd_74, decode (mB 74) q.1 = .ok (q.2.2.1, q.2.1) := sm_all (by decide +kernel)
theorem fs_74 : ∀ q ∈ sp_74, sm_F 74 q.1 q.2.2.2 q.2.1 := sm_rsl (fun q h => r_74 q (List.mem_append_left _ h)) (by decide +kernel)
theorem fl_74 : ∀ q ∈ lk_74, sm_F 74 q.1 q.2.2.2 q.2.1 := List.forall_mem_cons.mpr ⟨(⟨by decide, by decide, rfl, 14, (r_74 _ (List.mem_of_getElem? (i := 10) rfl)), Or.inl tw_t136⟩ : sm_F 74 1 (.getfield 225) 3),
  List.forall_mem_cons.mpr ⟨(⟨rfl, mf_18, tw_t315, tw_t316, rfl, by decide, 87, (r_74 _ (List.mem_of_getElem? (i := 11) rfl)), Or.inl tw_t636⟩ : sm_F 74 4 (.invokevirtual 18) 3),
  List.forall_mem_cons.mpr ⟨(⟨by decide, by decide, rfl, 32, (r_74 _ (List.mem_of_getElem? (i := 12) rfl)), Or.inl ⟨rfl, Or.inl tw_t138⟩⟩ : sm_F 74 9 (.putfield 227) 3),
  List.forall_mem_cons.mpr ⟨(⟨by decide, by decide, rfl, 88, (r_74 _ (List.mem_of_getElem? (i := 13) rfl)), Or.inl ⟨rfl, Or.inl tw_t139⟩⟩ : sm_F 74 14 (.putfield 228) 3),
  List.forall_mem_cons.mpr ⟨(⟨by decide, by decide, rfl, 35, (r_74 _ (List.mem_of_getElem? (i := 14) rfl)), Or.inl ⟨rfl, Or.inl tw_t140⟩⟩ : sm_F 74 19 (.putfield 229) 3),
  List.forall_mem_cons.mpr ⟨(⟨by decide, by decide, rfl, 38, (r_74 _ (List.mem_of_getElem? (i := 15) rfl)), Or.inl ⟨rfl, Or.inl tw_t141⟩⟩ : sm_F 74 24 (.putfield 230) 3),
  fun _ h => absurd h List.not_mem_nil⟩⟩⟩⟩⟩⟩
theorem f_74 : ∀ q ∈ cd_74, sm_F 74 q.1 q.2.2.2 q.2.1 := List.forall_mem_append.mpr ⟨fs_74, fl_74⟩
theorem r_75 : ∀ q ∈ cd_75, decode (mB 75) q.1 = .ok (q.2.2.1, q.2.1) := sm_all (by decide +kernel)
theorem fs_75 : ∀ q ∈ sp_75, sm_F 75 q.1 q.2.2.2 q.2.1 := sm_rsl (fun q h => r_75 q (List.mem_append_left _ h)) (by decide +kernel)
theorem fl_75 : ∀ q ∈ lk_75, sm_F 75 q.1 q.2.2.2 q.2.1 := List.forall_mem_cons.mpr ⟨(⟨by decide, by decide, rfl, 14, (r_75 _ (List.mem_of_getElem? (i := 4) rfl)), Or.inl tw_t136⟩ : sm_F 75 1 (.getfield 225) 3),
  List.forall_mem_cons.mpr ⟨(⟨rfl, mf_35, tw_t409, tw_t410, rfl, by decide, 66, (r_75 _ (List.mem_of_getElem? (i := 5) rfl)), Or.inl tw_t642⟩ : sm_F 75 5 (.invokevirtual 35) 3),
  List.forall_mem_cons.mpr ⟨(⟨rfl, mf_76, tw_t645, tw_p13, rfl, by decide, 59, (r_75 _ (List.mem_of_getElem? (i := 6) rfl)), Or.inl tw_t643⟩ : sm_F 75 9 (.invokevirtual 76) 3),
  fun _ h => absurd h List.not_mem_nil⟩⟩⟩
theorem f_75 : ∀ q ∈ cd_75, sm_F 75 q.1 q.2.2.2 q.2.1 := List.forall_mem_append.mpr ⟨fs_75, fl_75⟩
theorem r_76 : ∀ q ∈ cd_76, decode (mB 76) q.1 = .ok (q.2.2.1, q.2.1) := sm_all (by decide +kernel)
theorem fs_76 : ∀ q ∈ sp_76, sm_F 76 q.1 q.2.2.2 q.2.1 := sm_rsl (fun q h => r_76 q (List.mem_append_left _ h)) (by decide +kernel)
theorem fl_76 : ∀ q ∈ lk_76, sm_F 76 q.1 q.2.2.2 q.2.1 := List.forall_mem_cons.mpr ⟨(⟨by decide, by decide, rfl, 32, (r_76 _ (List.mem_of_getElem? (i := 33) rfl)), Or.inl tw_t138⟩ : sm_F 76 1 (.getfield 227) 3),
  List.forall_mem_cons.mpr ⟨(⟨by decide, by decide, rfl, 20, (r_76 _ (List.mem_of_getElem? (i := 34) rfl)), Or.inl tw_t137⟩ : sm_F 76 5 (.getfield 226) 3),
  List.forall_mem_cons.mpr ⟨(⟨by decide, by decide, rfl, 32, (r_76 _ (List.mem_of_getElem? (i := 35) rfl)), Or.inl tw_t138⟩ : sm_F 76 14 (.getfield 227) 3),
  List.forall_mem_cons.mpr ⟨(⟨(r_76 _ (List.mem_of_getElem? (i := 36) rfl)), rfl, tw_t92⟩ : sm_F 76 18 (.newarray .int) 2),
  List.forall_mem_cons.mpr ⟨(⟨by decide, by decide, rfl, 20, (r_76 _ (List.mem_of_getElem? (i := 37) rfl)), Or.inl tw_t137⟩ : sm_F 76 22 (.getfield 226) 3),
  List.forall_mem_cons.mpr ⟨(⟨by decide, by decide, rfl, 32, (r_76 _ (List.mem_of_getElem? (i := 38) rfl)), Or.inl tw_t138⟩ : sm_F 76 29 (.getfield 227) 3),
  List.forall_mem_cons.mpr ⟨(⟨rfl, 104, (r_76 _ (List.mem_of_getElem? (i := 39) rfl)), tw_t647, tw_t202, tw_t201, tw_t11⟩ : sm_F 76 32 .monitorexit 3),
  List.forall_mem_cons.mpr ⟨(⟨by decide, by decide, rfl, 20, (r_76 _ (List.mem_of_getElem? (i := 40) rfl)), Or.inl ⟨rfl, Or.inl tw_t137⟩⟩ : sm_F 76 37 (.putfield 226) 3),
  List.forall_mem_cons.mpr ⟨(⟨by decide, by decide, rfl, 20, (r_76 _ (List.mem_of_getElem? (i := 41) rfl)), Or.inl tw_t137⟩ : sm_F 76 41 (.getfield 226) 3),
  List.forall_mem_cons.mpr ⟨(⟨by decide, by decide, rfl, 32, (r_76 _ (List.mem_of_getElem? (i := 42) rfl)), Or.inl tw_t138⟩ : sm_F 76 45 (.getfield 227) 3),
  List.forall_mem_cons.mpr ⟨(⟨by decide, by decide, rfl, 88, (r_76 _ (List.mem_of_getElem? (i := 43) rfl)), Or.inl tw_t139⟩ : sm_F 76 49 (.getfield 228) 3),
  List.forall_mem_cons.mpr ⟨(⟨by decide, by decide, rfl, 32, (r_76 _ (List.mem_of_getElem? (i := 44) rfl)), Or.inl tw_t138⟩ : sm_F 76 55 (.getfield 227) 3),
  List.forall_mem_cons.mpr ⟨(⟨by decide, by decide, rfl, 32, (r_76 _ (List.mem_of_getElem? (i := 45) rfl)), Or.inl ⟨rfl, Or.inl tw_t138⟩⟩ : sm_F 76 60 (.putfield 227) 3),
  List.forall_mem_cons.mpr ⟨(⟨by decide, by decide, rfl, 35, (r_76 _ (List.mem_of_getElem? (i := 46) rfl)), Or.inl tw_t140⟩ : sm_F 76 65 (.getfield 229) 3),
  List.forall_mem_cons.mpr ⟨(⟨by decide, by decide, rfl, 14, (r_76 _ (List.mem_of_getElem? (i := 47) rfl)), Or.inl tw_t136⟩ : sm_F 76 69 (.getfield 225) 3),
  List.forall_mem_cons.mpr ⟨(⟨rfl, mf_10, tw_t193, tw_t194, rfl, by decide, 28, (r_76 _ (List.mem_of_getElem? (i := 48) rfl)), Or.inl tw_t648⟩ : sm_F 76 72 (.invokevirtual 10) 3),
  List.forall_mem_cons.mpr ⟨(⟨by decide, by decide, rfl, 88, (r_76 _ (List.mem_of_getElem? (i := 49) rfl)), Or.inl tw_t139⟩ : sm_F 76 76 (.getfield 228) 3),
  List.forall_mem_cons.mpr ⟨(⟨rfl, 110, (r_76 _ (List.mem_of_getElem? (i := 50) rfl)), tw_t649, tw_t127, tw_t9, tw_t128⟩ : sm_F 76 80 .dadd 3),
  List.forall_mem_cons.mpr ⟨(⟨by decide, by decide, rfl, 35, (r_76 _ (List.mem_of_getElem? (i := 51) rfl)), Or.inl ⟨rfl, Or.inl tw_t140⟩⟩ : sm_F 76 83 (.putfield 229) 3),
  List.forall_mem_cons.mpr ⟨(⟨by decide, by decide, rfl, 14, (r_76 _ (List.mem_of_getElem? (i := 52) rfl)), Or.inl tw_t136⟩ : sm_F 76 87 (.getfield 225) 3),
  List.forall_mem_cons.mpr ⟨(⟨rfl, mf_11, tw_t197, tw_t198, rfl, by decide, 116, (r_76 _ (List.mem_of_getElem? (i := 53) rfl)), Or.inl tw_t650⟩ : sm_F 76 92 (.invokevirtual 11) 3),
  List.forall_mem_cons.mpr ⟨(⟨by decide, by decide, rfl, 14, (r_76 _ (List.mem_of_getElem? (i := 54) rfl)), Or.inl tw_t136⟩ : sm_F 76 97 (.getfield 225) 3),
  List.forall_mem_cons.mpr ⟨(⟨rfl, mf_10, tw_t193, tw_t194, rfl, by decide, 28, (r_76 _ (List.mem_of_getElem? (i := 55) rfl)), Or.inl tw_t648⟩ : sm_F 76 100 (.invokevirtual 10) 3),
  List.forall_mem_cons.mpr ⟨(⟨by decide, by decide, rfl, 88, (r_76 _ (List.mem_of_getElem? (i := 56) rfl)), Or.inl ⟨rfl, Or.inl tw_t139⟩⟩ : sm_F 76 103 (.putfield 228) 3),
  fun _ h => absurd h List.not_mem_nil⟩⟩⟩⟩⟩⟩⟩⟩⟩⟩⟩⟩⟩⟩⟩⟩⟩⟩⟩⟩⟩⟩⟩⟩
theorem f_76 : ∀ q ∈ cd_76, sm_F 76 q.1 q.2.2.2 q.2.1 := List.forall_mem_append.mpr ⟨fs_76, fl_76⟩
theorem r_77 : ∀ q ∈ cd_77, decode (mB 77) q.1 = .ok (q.2.2.1, q.2.1) := sm_all (by decide +kernel)
theorem fs_77 : ∀ q ∈ sp_77, sm_F 77 q.1 q.2.2.2 q.2.1 := sm_rsl (fun q h => r_77 q (List.mem_append_left _ h)) (by decide +kernel)
theorem fl_77 : ∀ q ∈ lk_77, sm_F 77 q.1 q.2.2.2 q.2.1 := List.forall_mem_cons.mpr ⟨(⟨by decide, by decide, rfl, 11, (r_77 _ (List.mem_of_getElem? (i := 4) rfl)), Or.inl tw_t111⟩ : sm_F 77 1 (.getfield 192) 3),
  fun _ h => absurd h List.not_mem_nil⟩
theorem f_77 : ∀ q ∈ cd_77, sm_F 77 q.1 q.2.2.2 q.2.1 := List.forall_mem_append.mpr ⟨fs_77, fl_77⟩
theorem r_78 : ∀ q ∈ cd_78, decode (mB 78) q.1 = .ok (q.2.2.1, q.2.1) := sm_all (by decide +kernel)
theorem fs_78 : ∀ q ∈ sp_78, sm_F 78 q.1 q.2.2.2 q.2.1 := sm_rsl (fun q h => r_78 q (List.mem_append_left _ h)) (by decide +kernel)
theorem fl_78 : ∀ q ∈ lk_78, sm_F 78 q.1 q.2.2.2 q.2.1 := List.forall_mem_cons.mpr ⟨(⟨rfl, mf_10, tw_t193, tw_t194, rfl, by decide, 28, (r_78 _ (List.mem_of_getElem? (i := 22) rfl)), Or.inl tw_t648⟩ : sm_F 78 6 (.invokevirtual 10) 3),
  List.forall_mem_cons.mpr ⟨(⟨rfl, mf_16, tw_t222, tw_t223, rfl, by decide, 41, (r_78 _ (List.mem_of_getElem? (i := 23) rfl)), Or.inl tw_t664⟩ : sm_F 78 14 (.invokevirtual 16) 3),
  List.forall_mem_cons.mpr ⟨(⟨rfl, mf_79, tw_t667, tw_p15, rfl, by decide, 91, (r_78 _ (List.mem_of_getElem? (i := 24) rfl)), Or.inl tw_t665⟩ : sm_F 78 26 (.invokevirtual 79) 3),
  fun _ h => absurd h List.not_mem_nil⟩⟩⟩
theorem f_78 : ∀ q ∈ cd_78, sm_F 78 q.1 q.2.2.2 q.2.1 := List.forall_mem_append.mpr ⟨fs_78, fl_78⟩
theorem r_79 : ∀ q ∈ cd_79, decode (mB 79) q.1 = .ok (q.2.2.1, q.2.1) := sm_all (by decide +kernel)
theorem fs_79 : ∀ q ∈ sp_79, sm_F 79 q.1 q.2.2.2 q.2.1 := sm_rsl (fun q h => r_79 q (List.mem_append_left _ h)) (by decide +kernel)
theorem fl_79 : ∀ q ∈ lk_79, sm_F 79 q.1 q.2.2.2 q.2.1 := List.forall_mem_cons.mpr ⟨(⟨rfl, mf_16, tw_t222, tw_t223, rfl, by decide, 41, (r_79 _ (List.mem_of_getElem? (i := 70) rfl)), Or.inl tw_t664⟩ : sm_F 79 12 (.invokevirtual 16) 3),
  List.forall_mem_cons.mpr ⟨(⟨by decide, by decide, rfl, 24, (r_79 _ (List.mem_of_getElem? (i := 71) rfl)), Or.inl tw_t135⟩ : sm_F 79 53 (.getfield 224) 3),
  List.forall_mem_cons.mpr ⟨(⟨by decide, by decide, rfl, 24, (r_79 _ (List.mem_of_getElem? (i := 72) rfl)), Or.inl tw_t135⟩ : sm_F 79 64 (.getfield 224) 3),
  List.forall_mem_cons.mpr ⟨(⟨rfl, mf_80, tw_t670, 95, (r_79 _ (List.mem_of_getElem? (i := 73) rfl)), Or.inl tw_t669⟩ : sm_F 79 70 (.invokestatic 80) 3),
  List.forall_mem_cons.mpr ⟨(⟨by decide, by decide, rfl, 14, (r_79 _ (List.mem_of_getElem? (i := 74) rfl)), Or.inl tw_t136⟩ : sm_F 79 86 (.getfield 225) 3),
  List.forall_mem_cons.mpr ⟨(⟨rfl, mf_81, tw_t673, tw_t674, rfl, by decide, 99, (r_79 _ (List.mem_of_getElem? (i := 75) rfl)), Or.inl tw_t672⟩ : sm_F 79 91 (.invokevirtual 81) 3),
  List.forall_mem_cons.mpr ⟨(⟨by decide, by decide, rfl, 14, (r_79 _ (List.mem_of_getElem? (i := 76) rfl)), Or.inl tw_t136⟩ : sm_F 79 95 (.getfield 225) 3),
  List.forall_mem_cons.mpr ⟨(⟨rfl, mf_60, tw_t552, tw_t553, rfl, by decide, 102, (r_79 _ (List.mem_of_getElem? (i := 77) rfl)), Or.inl tw_t676⟩ : sm_F 79 105 (.invokevirtual 60) 3),
  List.forall_mem_cons.mpr ⟨(⟨rfl, mf_76, tw_t645, tw_p13, rfl, by decide, 59, (r_79 _ (List.mem_of_getElem? (i := 78) rfl)), Or.inl tw_t643⟩ : sm_F 79 109 (.invokevirtual 76) 3),
  List.forall_mem_cons.mpr ⟨(⟨by decide, by decide, rfl, 38, (r_79 _ (List.mem_of_getElem? (i := 79) rfl)), Or.inl tw_t141⟩ : sm_F 79 114 (.getfield 230) 3),
  List.forall_mem_cons.mpr ⟨(⟨by decide, by decide, rfl, 38, (r_79 _ (List.mem_of_getElem? (i := 80) rfl)), Or.inl ⟨rfl, Or.inl tw_t141⟩⟩ : sm_F 79 119 (.putfield 230) 3),
  List.forall_mem_cons.mpr ⟨(⟨by decide, by decide, rfl, 14, (r_79 _ (List.mem_of_getElem? (i := 81) rfl)), Or.inl tw_t136⟩ : sm_F 79 139 (.getfield 225) 3),
  List.forall_mem_cons.mpr ⟨(⟨rfl, mf_81, tw_t673, tw_t674, rfl, by decide, 99, (r_79 _ (List.mem_of_getElem? (i := 82) rfl)), Or.inl tw_t672⟩ : sm_F 79 144 (.invokevirtual 81) 3),
  List.forall_mem_cons.mpr ⟨(⟨by decide, by decide, rfl, 14, (r_79 _ (List.mem_of_getElem? (i := 83) rfl)), Or.inl tw_t136⟩ : sm_F 79 148 (.getfield 225) 3),
  List.forall_mem_cons.mpr ⟨(⟨rfl, mf_60, tw_t552, tw_t553, rfl, by decide, 102, (r_79 _ (List.mem_of_getElem? (i := 84) rfl)), Or.inl tw_t676⟩ : sm_F 79 155 (.invokevirtual 60) 3),
  List.forall_mem_cons.mpr ⟨(⟨rfl, mf_76, tw_t645, tw_p13, rfl, by decide, 59, (r_79 _ (List.mem_of_getElem? (i := 85) rfl)), Or.inl tw_t643⟩ : sm_F 79 159 (.invokevirtual 76) 3),
  fun _ h => absurd h List.not_mem_nil⟩⟩⟩⟩⟩⟩⟩⟩⟩⟩⟩⟩⟩⟩⟩⟩
theorem f_79 : ∀ q ∈ cd_79, sm_F 79 q.1 q.2.2.2 q.2.1 := List.forall_mem_append.mpr ⟨fs_79, fl_79⟩
theorem r_80 : ∀ q ∈ cd_80, decode (mB 80) q.1 = .ok (q.2.2.1, q.2.1) := sm_all (by decide +kernel)
theorem fs_80 : ∀ q ∈ sp_80, sm_F 80 q.1 q.2.2.2 q.2.1 := sm_rsl (fun q h => r_80 q (List.mem_append_left _ h)) (by decide +kernel)
theorem fl_80 : ∀ q ∈ lk_80, sm_F 80 q.1 q.2.2.2 q.2.1 := List.forall_mem_cons.mpr ⟨(⟨rfl, mf_16, tw_t222, tw_t223, rfl, by decide, 41, (r_80 _ (List.mem_of_getElem? (i := 56) rfl)), Or.inl tw_t664⟩ : sm_F 80 28 (.invokevirtual 16) 3),
  List.forall_mem_cons.mpr ⟨(⟨rfl, mf_16, tw_t222, tw_t223, rfl, by decide, 41, (r_80 _ (List.mem_of_getElem? (i := 57) rfl)), Or.inl tw_t664⟩ : sm_F 80 97 (.invokevirtual 16) 3),
  fun _ h => absurd h List.not_mem_nil⟩⟩
theorem f_80 : ∀ q ∈ cd_80, sm_F 80 q.1 q.2.2.2 q.2.1 := List.forall_mem_append.mpr ⟨fs_80, fl_80⟩
theorem r_81 : ∀ q ∈ cd_81, decode (mB 81) q.1 = .ok (q.2.2.1, q.2.1) := sm_all (by decide +kernel)
theorem fs_81 : ∀ q ∈ sp_81, sm_F 81 q.1 q.2.2.2 q.2.1 := sm_rsl (fun q h => r_81 q (List.mem_append_left _ h)) (by decide +kernel)
theorem fl_81 : ∀ q ∈ lk_81, sm_F 81 q.1 q.2.2.2 q.2.1 := List.forall_mem_cons.mpr ⟨(⟨rfl, mf_11, tw_t197, tw_t198, rfl, by decide, 34, (r_81 _ (List.mem_of_getElem? (i := 10) rfl)), Or.inl tw_t412⟩ : sm_F 81 10 (.invokevirtual 11) 3),
  fun _ h => absurd h List.not_mem_nil⟩
theorem f_81 : ∀ q ∈ cd_81, sm_F 81 q.1 q.2.2.2 q.2.1 := List.forall_mem_append.mpr ⟨fs_81, fl_81⟩
theorem r_82 : ∀ q ∈ cd_82, decode (mB 82) q.1 = .ok (q.2.2.1, q.2.1) := sm_all (by decide +kernel)
theorem fs_82 : ∀ q ∈ sp_82, sm_F 82 q.1 q.2.2.2 q.2.1 := sm_rsl (fun q h => r_82 q (List.mem_append_left _ h)) (by decide +kernel)
theorem fl_82 : ∀ q ∈ lk_82, sm_F 82 q.1 q.2.2.2 q.2.1 := List.forall_mem_cons.mpr ⟨(⟨by decide, by decide, rfl, 14, (r_82 _ (List.mem_of_getElem? (i := 2) rfl)), Or.inl tw_t136⟩ : sm_F 82 1 (.getfield 225) 3),
  List.forall_mem_cons.mpr ⟨(⟨rfl, mf_10, tw_t193, tw_t194, rfl, by decide, 28, (r_82 _ (List.mem_of_getElem? (i := 3) rfl)), Or.inl tw_t648⟩ : sm_F 82 4 (.invokevirtual 10) 3),
  fun _ h => absurd h List.not_mem_nil⟩⟩
theorem f_82 : ∀ q ∈ cd_82, sm_F 82 q.1 q.2.2.2 q.2.1 := List.forall_mem_append.mpr ⟨fs_82, fl_82⟩
theorem r_83 : ∀ q ∈ cd_83, decode (mB 83) q.1 = .ok (q.2.2.1, q.2.1) := sm_all (by decide +kernel)
theorem fs_83 : ∀ q ∈ sp_83, sm_F 83 q.1 q.2.2.2 q.2.1 := sm_rsl (fun q h => r_83 q (List.mem_append_left _ h)) (by decide +kernel)
theorem fl_83 : ∀ q ∈ lk_83, sm_F 83 q.1 q.2.2.2 q.2.1 := List.forall_mem_cons.mpr ⟨(⟨by decide, by decide, rfl, 73, (r_83 _ (List.mem_of_getElem? (i := 3) rfl)), Or.inl tw_t165⟩ : sm_F 83 1 (.getfield 8) 3),
  List.forall_mem_cons.mpr ⟨(⟨rfl, mf_84, tw_t688, tw_t689, rfl, by decide, 149, (r_83 _ (List.mem_of_getElem? (i := 4) rfl)), Or.inl tw_t687⟩ : sm_F 83 5 (.invokevirtual 84) 3),
  fun _ h => absurd h List.not_mem_nil⟩⟩
theorem f_83 : ∀ q ∈ cd_83, sm_F 83 q.1 q.2.2.2 q.2.1 := List.forall_mem_append.mpr ⟨fs_83, fl_83⟩
theorem r_84 : ∀ q ∈ cd_84, decode (mB 84) q.1 = .ok (q.2.2.1, q.2.1) := sm_all (by decide +kernel)
theorem fs_84 : ∀ q ∈ sp_84, sm_F 84 q.1 q.2.2.2 q.2.1 := sm_rsl (fun q h => r_84 q (List.mem_append_left _ h)) (by decide +kernel)
theorem fl_84 : ∀ q ∈ lk_84, sm_F 84 q.1 q.2.2.2 q.2.1 := List.forall_mem_cons.mpr ⟨(⟨by decide, by decide, rfl, 14, (r_84 _ (List.mem_of_getElem? (i := 3) rfl)), Or.inl tw_t136⟩ : sm_F 84 1 (.getfield 225) 3),
  List.forall_mem_cons.mpr ⟨(⟨rfl, mf_16, tw_t222, tw_t223, rfl, by decide, 41, (r_84 _ (List.mem_of_getElem? (i := 4) rfl)), Or.inl tw_t664⟩ : sm_F 84 5 (.invokevirtual 16) 3),
  fun _ h => absurd h List.not_mem_nil⟩⟩
theorem f_84 : ∀ q ∈ cd_84, sm_F 84 q.1 q.2.2.2 q.2.1 := List.forall_mem_append.mpr ⟨fs_84, fl_84⟩
theorem r_85 : ∀ q ∈ cd_85, decode (mB 85) q.1 = .ok (q.2.2.1, q.2.1) := sm_all (by decide +kernel)
theorem fs_85 : ∀ q ∈ sp_85, sm_F 85 q.1 q.2.2.2 q.2.1 := sm_rsl (fun q h => r_85 q (List.mem_append_left _ h)) (by decide +kernel)
theorem fl_85 : ∀ q ∈ lk_85, sm_F 85 q.1 q.2.2.2 q.2.1 := List.forall_mem_cons.mpr ⟨(⟨by decide, by decide, rfl, 73, (r_85 _ (List.mem_of_getElem? (i := 3) rfl)), Or.inl tw_t165⟩ : sm_F 85 1 (.getfield 8) 3),
  List.forall_mem_cons.mpr ⟨(⟨rfl, mf_86, tw_t696, tw_t697, rfl, by decide, 153, (r_85 _ (List.mem_of_getElem? (i := 4) rfl)), Or.inl tw_t695⟩ : sm_F 85 5 (.invokevirtual 86) 3),
  fun _ h => absurd h List.not_mem_nil⟩⟩
theorem f_85 : ∀ q ∈ cd_85, sm_F 85 q.1 q.2.2.2 q.2.1 := List.forall_mem_append.mpr ⟨fs_85, fl_85⟩
theorem r_86 : ∀ q ∈ cd_86, decode (mB 86) q.1 = .ok (q.2.2.1, q.2.1) := sm_all (by decide +kernel)
theorem fs_86 : ∀ q ∈ sp_86, sm_F 86 q.1 q.2.2.2 q.2.1 := sm_rsl (fun q h => r_86 q (List.mem_append_left _ h)) (by decide +kernel)
theorem fl_86 : ∀ q ∈ lk_86, sm_F 86 q.1 q.2.2.2 q.2.1 := List.forall_mem_cons.mpr ⟨(⟨by decide, by decide, rfl, 32, (r_86 _ (List.mem_of_getElem? (i := 11) rfl)), Or.inl tw_t138⟩ : sm_F 86 6 (.getfield 227) 3),
  List.forall_mem_cons.mpr ⟨(⟨by decide, by decide, rfl, 20, (r_86 _ (List.mem_of_getElem? (i := 12) rfl)), Or.inl tw_t137⟩ : sm_F 86 13 (.getfield 226) 3),
  fun _ h => absurd h List.not_mem_nil⟩⟩
theorem f_86 : ∀ q ∈ cd_86, sm_F 86 q.1 q.2.2.2 q.2.1 := List.forall_mem_append.mpr ⟨fs_86, fl_86⟩
theorem r_87 : ∀ q ∈ cd_87, decode (mB 87) q.1 = .ok (q.2.2.1, q.2.1) := sm_all (by decide +kernel)
theorem fs_87 : ∀ q ∈ sp_87, sm_F 87 q.1 q.2.2.2 q.2.1 := sm_rsl (fun q h => r_87 q (List.mem_append_left _ h)) (by decide +kernel)
theorem fl_87 : ∀ q ∈ lk_87, sm_F 87 q.1 q.2.2.2 q.2.1 := List.forall_mem_cons.mpr ⟨(⟨by decide, by decide, rfl, 53, (r_87 _ (List.mem_of_getElem? (i := 20) rfl)), Or.inl tw_t164⟩ : sm_F 87 49 (.getfield 7) 3),
  List.forall_mem_cons.mpr ⟨(⟨rfl, mf_70, tw_t617, tw_t618, rfl, by decide, 142, (r_87 _ (List.mem_of_getElem? (i := 21) rfl)), Or.inl tw_t616⟩ : sm_F 87 52 (.invokevirtual 70) 3),
  List.forall_mem_cons.mpr ⟨(⟨by decide, by decide, rfl, 14, (r_87 _ (List.mem_of_getElem? (i := 22) rfl)), Or.inl tw_t157⟩ : sm_F 87 57 (.getfield 0) 3),
  List.forall_mem_cons.mpr ⟨(⟨rfl, mf_10, tw_t193, tw_t194, rfl, by decide, 77, (r_87 _ (List.mem_of_getElem? (i := 23) rfl)), Or.inl tw_t192⟩ : sm_F 87 60 (.invokevirtual 10) 3),
  List.forall_mem_cons.mpr ⟨(⟨by decide, by decide, rfl, 37, (r_87 _ (List.mem_of_getElem? (i := 24) rfl)), Or.inl tw_t160⟩ : sm_F 87 65 (.getfield 3) 3),
  List.forall_mem_cons.mpr ⟨(⟨rfl, mf_26, tw_t371, tw_t372, rfl, by decide, 102, (r_87 _ (List.mem_of_getElem? (i := 25) rfl)), Or.inl tw_t370⟩ : sm_F 87 68 (.invokevirtual 26) 3),
  List.forall_mem_cons.mpr ⟨(⟨rfl, mf_28, tw_t379, tw_t380, rfl, by decide, 112, (r_87 _ (List.mem_of_getElem? (i := 26) rfl)), Or.inl tw_t378⟩ : sm_F 87 71 (.invokevirtual 28) 3),
  List.forall_mem_cons.mpr ⟨(⟨by decide, by decide, rfl, 73, (r_87 _ (List.mem_of_getElem? (i := 27) rfl)), Or.inl tw_t165⟩ : sm_F 87 76 (.getfield 8) 3),
  List.forall_mem_cons.mpr ⟨(⟨rfl, mf_82, tw_t680, tw_t681, rfl, by decide, 148, (r_87 _ (List.mem_of_getElem? (i := 28) rfl)), Or.inl tw_t679⟩ : sm_F 87 79 (.invokevirtual 82) 3),
  List.forall_mem_cons.mpr ⟨(⟨by decide, by decide, rfl, 73, (r_87 _ (List.mem_of_getElem? (i := 29) rfl)), Or.inl tw_t165⟩ : sm_F 87 84 (.getfield 8) 3),
  List.forall_mem_cons.mpr ⟨(⟨rfl, mf_88, tw_t704, tw_t705, rfl, by decide, 156, (r_87 _ (List.mem_of_getElem? (i := 30) rfl)), Or.inl tw_t703⟩ : sm_F 87 87 (.invokevirtual 88) 3),
  List.forall_mem_cons.mpr ⟨(⟨by decide, by decide, rfl, 73, (r_87 _ (List.mem_of_getElem? (i := 31) rfl)), Or.inl tw_t165⟩ : sm_F 87 92 (.getfield 8) 3),
  List.forall_mem_cons.mpr ⟨(⟨rfl, mf_89, tw_t708, tw_t709, rfl, by decide, 159, (r_87 _ (List.mem_of_getElem? (i := 32) rfl)), Or.inl tw_t707⟩ : sm_F 87 95 (.invokevirtual 89) 3),
  List.forall_mem_cons.mpr ⟨(⟨by decide, by decide, rfl, 73, (r_87 _ (List.mem_of_getElem? (i := 33) rfl)), Or.inl tw_t165⟩ : sm_F 87 100 (.getfield 8) 3),
  List.forall_mem_cons.mpr ⟨(⟨rfl, mf_90, tw_t712, tw_t713, rfl, by decide, 162, (r_87 _ (List.mem_of_getElem? (i := 34) rfl)), Or.inl tw_t711⟩ : sm_F 87 103 (.invokevirtual 90) 3),
  List.forall_mem_cons.mpr ⟨(⟨by decide, by decide, rfl, 53, (r_87 _ (List.mem_of_getElem? (i := 35) rfl)), Or.inl tw_t164⟩ : sm_F 87 108 (.getfield 7) 3),
  List.forall_mem_cons.mpr ⟨(⟨rfl, mf_91, tw_t716, tw_t717, rfl, by decide, 165, (r_87 _ (List.mem_of_getElem? (i := 36) rfl)), Or.inl tw_t715⟩ : sm_F 87 111 (.invokevirtual 91) 3),
  fun _ h => absurd h List.not_mem_nil⟩⟩⟩⟩⟩⟩⟩⟩⟩⟩⟩⟩⟩⟩⟩⟩⟩
theorem f_87 : ∀ q ∈ cd_87, sm_F 87 q.1 q.2.2.2 q.2.1 := List.forall_mem_append.mpr ⟨fs_87, fl_87⟩
theorem r_88 : ∀ q ∈ cd_88, decode (mB 88) q.1 = .ok (q.2.2.1, q.2.1) := sm_all (by decide +kernel)
theorem fs_88 : ∀ q ∈ sp_88, sm_F 88 q.1 q.2.2.2 q.2.1 := sm_rsl (fun q h => r_88 q (List.mem_append_left _ h)) (by decide +kernel)
theorem fl_88 : ∀ q ∈ lk_88, sm_F 88 q.1 q.2.2.2 q.2.1 := List.forall_mem_cons.mpr ⟨(⟨by decide, by decide, rfl, 32, (r_88 _ (List.mem_of_getElem? (i := 2) rfl)), Or.inl tw_t138⟩ : sm_F 88 1 (.getfield 227) 3),
  fun _ h => absurd h List.not_mem_nil⟩
theorem f_88 : ∀ q ∈ cd_88, sm_F 88 q.1 q.2.2.2 q.2.1 := List.forall_mem_append.mpr ⟨fs_88, fl_88⟩
theorem r_89 : ∀ q ∈ cd_89, decode (mB 89) q.1 = .ok (q.2.2.1, q.2.1) := sm_all (by decide +kernel)
theorem fs_89 : ∀ q ∈ sp_89, sm_F 89 q.1 q.2.2.2 q.2.1 := sm_rsl (fun q h => r_89 q (List.mem_append_left _ h)) (by decide +kernel)
theorem fl_89 : ∀ q ∈ lk_89, sm_F 89 q.1 q.2.2.2 q.2.1 := List.forall_mem_cons.mpr ⟨(⟨by decide, by decide, rfl, 35, (r_89 _ (List.mem_of_getElem? (i := 2) rfl)), Or.inl tw_t140⟩ : sm_F 89 1 (.getfield 229) 3),
  fun _ h => absurd h List.not_mem_nil⟩
theorem f_89 : ∀ q ∈ cd_89, sm_F 89 q.1 q.2.2.2 q.2.1 := List.forall_mem_append.mpr ⟨fs_89, fl_89⟩
theorem r_90 : ∀ q ∈ cd_90, decode (mB 90) q.1 = .ok (q.2.2.1, q.2.1) := sm_all (by decide +kernel)
theorem fs_90 : ∀ q ∈ sp_90, sm_F 90 q.1 q.2.2.2 q.2.1 := sm_rsl (fun q h => r_90 q (List.mem_append_left _ h)) (by decide +kernel)
theorem fl_90 : ∀ q ∈ lk_90, sm_F 90 q.1 q.2.2.2 q.2.1 := List.forall_mem_cons.mpr ⟨(⟨by decide, by decide, rfl, 38, (r_90 _ (List.mem_of_getElem? (i := 2) rfl)), Or.inl tw_t141⟩ : sm_F 90 1 (.getfield 230) 3),
  fun _ h => absurd h List.not_mem_nil⟩
theorem f_90 : ∀ q ∈ cd_90, sm_F 90 q.1 q.2.2.2 q.2.1 := List.forall_mem_append.mpr ⟨fs_90, fl_90⟩
theorem r_91 : ∀ q ∈ cd_91, decode (mB 91) q.1 = .ok (q.2.2.1, q.2.1) := sm_all (by decide +kernel)
theorem fs_91 : ∀ q ∈ sp_91, sm_F 91 q.1 q.2.2.2 q.2.1 := sm_rsl (fun q h => r_91 q (List.mem_append_left _ h)) (by decide +kernel)
theorem fl_91 : ∀ q ∈ lk_91, sm_F 91 q.1 q.2.2.2 q.2.1 := List.forall_mem_cons.mpr ⟨(⟨by decide, by decide, rfl, 21, (r_91 _ (List.mem_of_getElem? (i := 2) rfl)), Or.inl tw_t113⟩ : sm_F 91 1 (.getfield 194) 3),
  fun _ h => absurd h List.not_mem_nil⟩
theorem f_91 : ∀ q ∈ cd_91, sm_F 91 q.1 q.2.2.2 q.2.1 := List.forall_mem_append.mpr ⟨fs_91, fl_91⟩
theorem r_92 : ∀ q ∈ cd_92, decode (mB 92) q.1 = .ok (q.2.2.1, q.2.1) := sm_all (by decide +kernel)
theorem fs_92 : ∀ q ∈ sp_92, sm_F 92 q.1 q.2.2.2 q.2.1 := sm_rsl (fun q h => r_92 q (List.mem_append_left _ h)) (by decide +kernel)
theorem fl_92 : ∀ q ∈ lk_92, sm_F 92 q.1 q.2.2.2 q.2.1 := fun _ h => absurd h List.not_mem_nil
theorem f_92 : ∀ q ∈ cd_92, sm_F 92 q.1 q.2.2.2 q.2.1 := List.forall_mem_append.mpr ⟨fs_92, fl_92⟩
theorem r_93 : ∀ q ∈ cd_93, decode (mB 93) q.1 = .ok (q.2.2.1, q.2.1) := sm_all (by decide +kernel)
theorem fs_93 : ∀ q ∈ sp_93, sm_F 93 q.1 q.2.2.2 q.2.1 := sm_rsl (fun q h => r_93 q (List.mem_append_left _ h)) (by decide +kernel)
theorem fl_93 : ∀ q ∈ lk_93, sm_F 93 q.1 q.2.2.2 q.2.1 := List.forall_mem_cons.mpr ⟨(⟨rfl, 1, (r_93 _ (List.mem_of_getElem? (i := 70) rfl)), tw_t727, tw_t23, tw_t24⟩ : sm_F 93 1 .monitorenter 3),
  List.forall_mem_cons.mpr ⟨(⟨by decide, by decide, rfl, 7, (r_93 _ (List.mem_of_getElem? (i := 71) rfl)), Or.inl ⟨rfl, Or.inl tw_t729⟩⟩ : sm_F 93 6 (.putfield 257) 3),
  List.forall_mem_cons.mpr ⟨(⟨by decide, by decide, rfl, 13, (r_93 _ (List.mem_of_getElem? (i := 72) rfl)), Or.inl ⟨rfl, Or.inl tw_t730⟩⟩ : sm_F 93 11 (.putfield 258) 3),
  List.forall_mem_cons.mpr ⟨(⟨by decide, by decide, rfl, 16, (r_93 _ (List.mem_of_getElem? (i := 73) rfl)), Or.inl ⟨rfl, Or.inl tw_t731⟩⟩ : sm_F 93 16 (.putfield 259) 3),
  List.forall_mem_cons.mpr ⟨(⟨by decide, by decide, rfl, 19, (r_93 _ (List.mem_of_getElem? (i := 74) rfl)), Or.inl ⟨rfl, Or.inl tw_t732⟩⟩ : sm_F 93 21 (.putfield 260) 3),
  List.forall_mem_cons.mpr ⟨(⟨by decide, by decide, rfl, 22, (r_93 _ (List.mem_of_getElem? (i := 75) rfl)), Or.inl ⟨rfl, Or.inl tw_t733⟩⟩ : sm_F 93 26 (.putfield 261) 3),
  List.forall_mem_cons.mpr ⟨(⟨by decide, by decide, rfl, 25, (r_93 _ (List.mem_of_getElem? (i := 76) rfl)), Or.inl ⟨rfl, Or.inl tw_t734⟩⟩ : sm_F 93 31 (.putfield 262) 3),
  List.forall_mem_cons.mpr ⟨(⟨by decide, by decide, rfl, 28, (r_93 _ (List.mem_of_getElem? (i := 77) rfl)), Or.inl ⟨rfl, Or.inl tw_t735⟩⟩ : sm_F 93 36 (.putfield 263) 3),
  List.forall_mem_cons.mpr ⟨(⟨by decide, by decide, rfl, 31, (r_93 _ (List.mem_of_getElem? (i := 78) rfl)), Or.inl ⟨rfl, Or.inl tw_t736⟩⟩ : sm_F 93 41 (.putfield 264) 3),
  List.forall_mem_cons.mpr ⟨(⟨by decide, by decide, rfl, 34, (r_93 _ (List.mem_of_getElem? (i := 79) rfl)), Or.inl ⟨rfl, Or.inl tw_t737⟩⟩ : sm_F 93 46 (.putfield 265) 3),
  List.forall_mem_cons.mpr ⟨(⟨(r_93 _ (List.mem_of_getElem? (i := 80) rfl)), rfl, tw_t38⟩ : sm_F 93 52 (.newarray .char) 2),
  List.forall_mem_cons.mpr ⟨(⟨by decide, by decide, rfl, 37, (r_93 _ (List.mem_of_getElem? (i := 81) rfl)), Or.inr ⟨rfl, rfl, rfl, tw_t738⟩⟩ : sm_F 93 54 (.putfield 266) 3),
  List.forall_mem_cons.mpr ⟨(⟨(r_93 _ (List.mem_of_getElem? (i := 82) rfl)), rfl, tw_t38⟩ : sm_F 93 61 (.newarray .char) 2),
  List.forall_mem_cons.mpr ⟨(⟨by decide, by decide, rfl, 41, (r_93 _ (List.mem_of_getElem? (i := 83) rfl)), Or.inr ⟨rfl, rfl, rfl, tw_t739⟩⟩ : sm_F 93 63 (.putfield 267) 3),
  List.forall_mem_cons.mpr ⟨(⟨(r_93 _ (List.mem_of_getElem? (i := 84) rfl)), rfl, tw_t92⟩ : sm_F 93 69 (.newarray .int) 2),
  List.forall_mem_cons.mpr ⟨(⟨by decide, by decide, rfl, 44, (r_93 _ (List.mem_of_getElem? (i := 85) rfl)), Or.inr ⟨rfl, rfl, rfl, tw_t740⟩⟩ : sm_F 93 71 (.putfield 268) 3),
  List.forall_mem_cons.mpr ⟨(⟨(r_93 _ (List.mem_of_getElem? (i := 86) rfl)), rfl, tw_t92⟩ : sm_F 93 77 (.newarray .int) 2),
  List.forall_mem_cons.mpr ⟨(⟨by decide, by decide, rfl, 48, (r_93 _ (List.mem_of_getElem? (i := 87) rfl)), Or.inr ⟨rfl, rfl, rfl, tw_t741⟩⟩ : sm_F 93 79 (.putfield 269) 3),
  List.forall_mem_cons.mpr ⟨(⟨(r_93 _ (List.mem_of_getElem? (i := 88) rfl)), rfl, tw_t92⟩ : sm_F 93 86 (.newarray .int) 2),
  List.forall_mem_cons.mpr ⟨(⟨by decide, by decide, rfl, 51, (r_93 _ (List.mem_of_getElem? (i := 89) rfl)), Or.inr ⟨rfl, rfl, rfl, tw_t742⟩⟩ : sm_F 93 88 (.putfield 270) 3),
  List.forall_mem_cons.mpr ⟨(⟨(r_93 _ (List.mem_of_getElem? (i := 90) rfl)), rfl, tw_t92⟩ : sm_F 93 95 (.newarray .int) 2),
  List.forall_mem_cons.mpr ⟨(⟨by decide, by decide, rfl, 54, (r_93 _ (List.mem_of_getElem? (i := 91) rfl)), Or.inr ⟨rfl, rfl, rfl, tw_t743⟩⟩ : sm_F 93 97 (.putfield 271) 3),
  List.forall_mem_cons.mpr ⟨(⟨(r_93 _ (List.mem_of_getElem? (i := 92) rfl)), rfl, tw_t92⟩ : sm_F 93 103 (.newarray .int) 2),
  List.forall_mem_cons.mpr ⟨(⟨by decide, by decide, rfl, 57, (r_93 _ (List.mem_of_getElem? (i := 93) rfl)), Or.inr ⟨rfl, rfl, rfl, tw_t744⟩⟩ : sm_F 93 105 (.putfield 272) 3),
  List.forall_mem_cons.mpr ⟨(⟨(r_93 _ (List.mem_of_getElem? (i := 94) rfl)), rfl, tw_t804⟩ : sm_F 93 111 (.newarray .boolean) 2),
  List.forall_mem_cons.mpr ⟨(⟨by decide, by decide, rfl, 60, (r_93 _ (List.mem_of_getElem? (i := 95) rfl)), Or.inr ⟨rfl, rfl, rfl, tw_t745⟩⟩ : sm_F 93 113 (.putfield 273) 3),
  List.forall_mem_cons.mpr ⟨(⟨(r_93 _ (List.mem_of_getElem? (i := 96) rfl)), rfl, tw_t38⟩ : sm_F 93 120 (.newarray .char) 2),
  List.forall_mem_cons.mpr ⟨(⟨by decide, by decide, rfl, 64, (r_93 _ (List.mem_of_getElem? (i := 97) rfl)), Or.inr ⟨rfl, rfl, rfl, tw_t746⟩⟩ : sm_F 93 122 (.putfield 274) 3),
  List.forall_mem_cons.mpr ⟨(⟨(r_93 _ (List.mem_of_getElem? (i := 98) rfl)), rfl, tw_t92⟩ : sm_F 93 127 (.newarray .int) 2),
  List.forall_mem_cons.mpr ⟨(⟨by decide, by decide, rfl, 67, (r_93 _ (List.mem_of_getElem? (i := 99) rfl)), Or.inr ⟨rfl, rfl, rfl, tw_t747⟩⟩ : sm_F 93 129 (.putfield 275) 3),
  List.forall_mem_cons.mpr ⟨(⟨by decide, by decide, rfl, 70, (r_93 _ (List.mem_of_getElem? (i := 100) rfl)), Or.inl ⟨rfl, Or.inl tw_t748⟩⟩ : sm_F 93 134 (.putfield 276) 3),
  List.forall_mem_cons.mpr ⟨(⟨by decide, by decide, rfl, 73, (r_93 _ (List.mem_of_getElem? (i := 101) rfl)), Or.inl ⟨rfl, Or.inl tw_t749⟩⟩ : sm_F 93 139 (.putfield 277) 3),
  List.forall_mem_cons.mpr ⟨(⟨(r_93 _ (List.mem_of_getElem? (i := 102) rfl)), rfl, tw_t92⟩ : sm_F 93 146 (.newarray .int) 2),
  List.forall_mem_cons.mpr ⟨(⟨by decide, by decide, rfl, 76, (r_93 _ (List.mem_of_getElem? (i := 103) rfl)), Or.inr ⟨rfl, rfl, rfl, tw_t750⟩⟩ : sm_F 93 148 (.putfield 278) 3),
  List.forall_mem_cons.mpr ⟨(⟨by decide, by decide, rfl, 79, (r_93 _ (List.mem_of_getElem? (i := 104) rfl)), Or.inl ⟨rfl, Or.inl tw_t751⟩⟩ : sm_F 93 153 (.putfield 279) 3),
  List.forall_mem_cons.mpr ⟨(⟨by decide, by decide, rfl, 82, (r_93 _ (List.mem_of_getElem? (i := 105) rfl)), Or.inl ⟨rfl, Or.inl tw_t752⟩⟩ : sm_F 93 158 (.putfield 280) 3),
  List.forall_mem_cons.mpr ⟨(⟨by decide, by decide, rfl, 86, (r_93 _ (List.mem_of_getElem? (i := 106) rfl)), Or.inr ⟨rfl, rfl, rfl, tw_t728⟩⟩ : sm_F 93 185 (.putfield 256) 3),
  List.forall_mem_cons.mpr ⟨(⟨by decide, by decide, rfl, 41, (r_93 _ (List.mem_of_getElem? (i := 107) rfl)), Or.inl tw_t739⟩ : sm_F 93 189 (.getfield 267) 3),
  List.forall_mem_cons.mpr ⟨(⟨by decide, by decide, rfl, 44, (r_93 _ (List.mem_of_getElem? (i := 108) rfl)), Or.inl tw_t740⟩ : sm_F 93 199 (.getfield 268) 3),
  fun _ h => absurd h List.not_mem_nil⟩⟩⟩⟩⟩⟩⟩⟩⟩⟩⟩⟩⟩⟩⟩⟩⟩⟩⟩⟩⟩⟩⟩⟩⟩⟩⟩⟩⟩⟩⟩⟩⟩⟩⟩⟩⟩⟩⟩
theorem f_93 : ∀ q ∈ cd_93, sm_F 93 q.1 q.2.2.2 q.2.1 := List.forall_mem_append.mpr ⟨fs_93, fl_93⟩
theorem r_94 : ∀ q ∈ cd_94, decode (mB 94) q.1 = .ok (q.2.2.1, q.2.1) := sm_all (by decide +kernel)
theorem fs_94 : ∀ q ∈ sp_94, sm_F 94 q.1 q.2.2.2 q.2.1 := sm_rsl (fun q h => r_94 q (List.mem_append_left _ h)) (by decide +kernel)
theorem fl_94 : ∀ q ∈ lk_94, sm_F 94 q.1 q.2.2.2 q.2.1 := List.forall_mem_cons.mpr ⟨(⟨by decide, by decide, rfl, 7, (r_94 _ (List.mem_of_getElem? (i := 23) rfl)), Or.inl tw_t729⟩ : sm_F 94 13 (.getfield 257) 3),
  List.forall_mem_cons.mpr ⟨(⟨by decide, by decide, rfl, 37, (r_94 _ (List.mem_of_getElem? (i := 24) rfl)), Or.inl tw_t738⟩ : sm_F 94 25 (.getfield 266) 3),
  List.forall_mem_cons.mpr ⟨(⟨by decide, by decide, rfl, 7, (r_94 _ (List.mem_of_getElem? (i := 25) rfl)), Or.inl tw_t729⟩ : sm_F 94 29 (.getfield 257) 3),
  List.forall_mem_cons.mpr ⟨(⟨by decide, by decide, rfl, 7, (r_94 _ (List.mem_of_getElem? (i := 26) rfl)), Or.inl tw_t729⟩ : sm_F 94 37 (.getfield 257) 3),
  List.forall_mem_cons.mpr ⟨(⟨by decide, by decide, rfl, 7, (r_94 _ (List.mem_of_getElem? (i := 27) rfl)), Or.inl ⟨rfl, Or.inl tw_t729⟩⟩ : sm_F 94 42 (.putfield 257) 3),
  List.forall_mem_cons.mpr ⟨(⟨by decide, by decide, rfl, 7, (r_94 _ (List.mem_of_getElem? (i := 28) rfl)), Or.inl tw_t729⟩ : sm_F 94 46 (.getfield 257) 3),
  fun _ h => absurd h List.not_mem_nil⟩⟩⟩⟩⟩⟩
theorem f_94 : ∀ q ∈ cd_94, sm_F 94 q.1 q.2.2.2 q.2.1 := List.forall_mem_append.mpr ⟨fs_94, fl_94⟩
theorem r_95 : ∀ q ∈ cd_95, decode (mB 95) q.1 = .ok (q.2.2.1, q.2.1) := sm_all (by decide +kernel)
theorem fs_95 : ∀ q ∈ sp_95, sm_F 95 q.1 q.2.2.2 q.2.1 := sm_rsl (fun q h => r_95 q (List.mem_append_left _ h)) (by decide +kernel)
theorem fl_95 : ∀ q ∈ lk_95, sm_F 95 q.1 q.2.2.2 q.2.1 := List.forall_mem_cons.mpr ⟨(⟨rfl, mf_96, tw_t815, tw_p16, rfl, by decide, 97, (r_95 _ (List.mem_of_getElem? (i := 10) rfl)), Or.inl tw_t813⟩ : sm_F 95 15 (.invokevirtual 96) 3),
  fun _ h => absurd h List.not_mem_nil⟩
theorem f_95 : ∀ q ∈ cd_95, sm_F 95 q.1 q.2.2.2 q.2.1 := List.forall_mem_append.mpr ⟨fs_95, fl_95⟩
theorem r_96 : ∀ q ∈ cd_96, decode (mB 96) q.1 = .ok (q.2.2.1, q.2.1) := sm_all (by decide +kernel)
theorem fs_96 : ∀ q ∈ sp_96, sm_F 96 q.1 q.2.2.2 q.2.1 := sm_rsl (fun q h => r_96 q (List.mem_append_left _ h)) (by decide +kernel)
theorem fl_96 : ∀ q ∈ lk_96, sm_F 96 q.1 q.2.2.2 q.2.1 := List.forall_mem_cons.mpr ⟨(⟨by decide, by decide, rfl, 7, (r_96 _ (List.mem_of_getElem? (i := 48) rfl)), Or.inl tw_t729⟩ : sm_F 96 10 (.getfield 257) 3),
  List.forall_mem_cons.mpr ⟨(⟨rfl, mf_97, tw_t819, tw_p17, rfl, by decide, 93, (r_96 _ (List.mem_of_getElem? (i := 49) rfl)), Or.inl tw_t817⟩ : sm_F 96 18 (.invokevirtual 97) 3),
  List.forall_mem_cons.mpr ⟨(⟨by decide, by decide, rfl, 7, (r_96 _ (List.mem_of_getElem? (i := 50) rfl)), Or.inl tw_t729⟩ : sm_F 96 29 (.getfield 257) 3),
  List.forall_mem_cons.mpr ⟨(⟨by decide, by decide, rfl, 7, (r_96 _ (List.mem_of_getElem? (i := 51) rfl)), Or.inl ⟨rfl, Or.inl tw_t729⟩⟩ : sm_F 96 36 (.putfield 257) 3),
  List.forall_mem_cons.mpr ⟨(⟨by decide, by decide, rfl, 41, (r_96 _ (List.mem_of_getElem? (i := 52) rfl)), Or.inl tw_t739⟩ : sm_F 96 62 (.getfield 267) 3),
  List.forall_mem_cons.mpr ⟨(⟨by decide, by decide, rfl, 37, (r_96 _ (List.mem_of_getElem? (i := 53) rfl)), Or.inl tw_t738⟩ : sm_F 96 73 (.getfield 266) 3),
  List.forall_mem_cons.mpr ⟨(⟨by decide, by decide, rfl, 44, (r_96 _ (List.mem_of_getElem? (i := 54) rfl)), Or.inl tw_t740⟩ : sm_F 96 87 (.getfield 268) 3),
  fun _ h => absurd h List.not_mem_nil⟩⟩⟩⟩⟩⟩⟩
theorem f_96 : ∀ q ∈ cd_96, sm_F 96 q.1 q.2.2.2 q.2.1 := List.forall_mem_append.mpr ⟨fs_96, fl_96⟩
theorem r_97 : ∀ q ∈ cd_97, decode (mB 97) q.1 = .ok (q.2.2.1, q.2.1) := sm_all (by decide +kernel)
theorem fs_97 : ∀ q ∈ sp_97, sm_F 97 q.1 q.2.2.2 q.2.1 := sm_rsl (fun q h => r_97 q (List.mem_append_left _ h)) (by decide +kernel)
theorem fl_97 : ∀ q ∈ lk_97, sm_F 97 q.1 q.2.2.2 q.2.1 := List.forall_mem_cons.mpr ⟨(⟨by decide, by decide, rfl, 7, (r_97 _ (List.mem_of_getElem? (i := 63) rfl)), Or.inl tw_t729⟩ : sm_F 97 4 (.getfield 257) 3),
  List.forall_mem_cons.mpr ⟨(⟨by decide, by decide, rfl, 37, (r_97 _ (List.mem_of_getElem? (i := 64) rfl)), Or.inl tw_t738⟩ : sm_F 97 11 (.getfield 266) 3),
  List.forall_mem_cons.mpr ⟨(⟨by decide, by decide, rfl, 7, (r_97 _ (List.mem_of_getElem? (i := 65) rfl)), Or.inl tw_t729⟩ : sm_F 97 36 (.getfield 257) 3),
  List.forall_mem_cons.mpr ⟨(⟨by decide, by decide, rfl, 37, (r_97 _ (List.mem_of_getElem? (i := 66) rfl)), Or.inl tw_t738⟩ : sm_F 97 45 (.getfield 266) 3),
  List.forall_mem_cons.mpr ⟨(⟨by decide, by decide, rfl, 7, (r_97 _ (List.mem_of_getElem? (i := 67) rfl)), Or.inl tw_t729⟩ : sm_F 97 59 (.getfield 257) 3),
  List.forall_mem_cons.mpr ⟨(⟨by decide, by decide, rfl, 37, (r_97 _ (List.mem_of_getElem? (i := 68) rfl)), Or.inl tw_t738⟩ : sm_F 97 66 (.getfield 266) 3),
  List.forall_mem_cons.mpr ⟨(⟨by decide, by decide, rfl, 37, (r_97 _ (List.mem_of_getElem? (i := 69) rfl)), Or.inl tw_t738⟩ : sm_F 97 79 (.getfield 266) 3),
  List.forall_mem_cons.mpr ⟨(⟨by decide, by decide, rfl, 37, (r_97 _ (List.mem_of_getElem? (i := 70) rfl)), Or.inl tw_t738⟩ : sm_F 97 101 (.getfield 266) 3),
  List.forall_mem_cons.mpr ⟨(⟨rfl, mf_98, tw_t823, tw_p18, rfl, by decide, 89, (r_97 _ (List.mem_of_getElem? (i := 71) rfl)), Or.inl tw_t821⟩ : sm_F 97 106 (.invokevirtual 98) 3),
  fun _ h => absurd h List.not_mem_nil⟩⟩⟩⟩⟩⟩⟩⟩⟩
theorem f_97 : ∀ q ∈ cd_97, sm_F 97 q.1 q.2.2.2 q.2.1 := List.forall_mem_append.mpr ⟨fs_97, fl_97⟩
theorem r_98 : ∀ q ∈ cd_98, decode (mB 98) q.1 = .ok (q.2.2.1, q.2.1) := sm_all (by decide +kernel)
theorem fs_98 : ∀ q ∈ sp_98, sm_F 98 q.1 q.2.2.2 q.2.1 := sm_rsl (fun q h => r_98 q (List.mem_append_left _ h)) (by decide +kernel)
theorem fl_98 : ∀ q ∈ lk_98, sm_F 98 q.1 q.2.2.2 q.2.1 := fun _ h => absurd h List.not_mem_nil
theorem f_98 : ∀ q ∈ cd_98, sm_F 98 q.1 q.2.2.2 q.2.1 := List.forall_mem_append.mpr ⟨fs_98, fl_98⟩
theorem r_99 : ∀ q ∈ cd_99, decode (mB 99) q.1 = .ok (q.2.2.1, q.2.1) := sm_all (by decide +kernel)
theorem fs_99 : ∀ q ∈ sp_99, sm_F 99 q.1 q.2.2.2 q.2.1 := sm_rsl (fun q h => r_99 q (List.mem_append_left _ h)) (by decide +kernel)
theorem fl_99 : ∀ q ∈ lk_99, sm_F 99 q.1 q.2.2.2 q.2.1 := List.forall_mem_cons.mpr ⟨(⟨rfl, mf_96, tw_t815, tw_p16, rfl, by decide, 97, (r_99 _ (List.mem_of_getElem? (i := 3) rfl)), Or.inl tw_t813⟩ : sm_F 99 2 (.invokevirtual 96) 3),
  fun _ h => absurd h List.not_mem_nil⟩
theorem f_99 : ∀ q ∈ cd_99, sm_F 99 q.1 q.2.2.2 q.2.1 := List.forall_mem_append.mpr ⟨fs_99, fl_99⟩
theorem r_100 : ∀ q ∈ cd_100, decode (mB 100) q.1 = .ok (q.2.2.1, q.2.1) := sm_all (by decide +kernel)
theorem fs_100 : ∀ q ∈ sp_100, sm_F 100 q.1 q.2.2.2 q.2.1 := sm_rsl (fun q h => r_100 q (List.mem_append_left _ h)) (by decide +kernel)
theorem fl_100 : ∀ q ∈ lk_100, sm_F 100 q.1 q.2.2.2 q.2.1 := List.forall_mem_cons.mpr ⟨(⟨by decide, by decide, rfl, 7, (r_100 _ (List.mem_of_getElem? (i := 51) rfl)), Or.inl tw_t729⟩ : sm_F 100 1 (.getfield 257) 3),
  List.forall_mem_cons.mpr ⟨(⟨by decide, by decide, rfl, 37, (r_100 _ (List.mem_of_getElem? (i := 52) rfl)), Or.inl tw_t738⟩ : sm_F 100 9 (.getfield 266) 3),
  List.forall_mem_cons.mpr ⟨(⟨rfl, mf_97, tw_t819, tw_p17, rfl, by decide, 93, (r_100 _ (List.mem_of_getElem? (i := 53) rfl)), Or.inl tw_t817⟩ : sm_F 100 35 (.invokevirtual 97) 3),
  List.forall_mem_cons.mpr ⟨(⟨by decide, by decide, rfl, 7, (r_100 _ (List.mem_of_getElem? (i := 54) rfl)), Or.inl tw_t729⟩ : sm_F 100 40 (.getfield 257) 3),
  List.forall_mem_cons.mpr ⟨(⟨by decide, by decide, rfl, 7, (r_100 _ (List.mem_of_getElem? (i := 55) rfl)), Or.inl ⟨rfl, Or.inl tw_t729⟩⟩ : sm_F 100 46 (.putfield 257) 3),
  List.forall_mem_cons.mpr ⟨(⟨by decide, by decide, rfl, 41, (r_100 _ (List.mem_of_getElem? (i := 56) rfl)), Or.inl tw_t739⟩ : sm_F 100 71 (.getfield 267) 3),
  List.forall_mem_cons.mpr ⟨(⟨by decide, by decide, rfl, 37, (r_100 _ (List.mem_of_getElem? (i := 57) rfl)), Or.inl tw_t738⟩ : sm_F 100 81 (.getfield 266) 3),
  List.forall_mem_cons.mpr ⟨(⟨by decide, by decide, rfl, 44, (r_100 _ (List.mem_of_getElem? (i := 58) rfl)), Or.inl tw_t740⟩ : sm_F 100 95 (.getfield 268) 3),
  fun _ h => absurd h List.not_mem_nil⟩⟩⟩⟩⟩⟩⟩⟩
theorem f_100 : ∀ q ∈ cd_100, sm_F 100 q.1 q.2.2.2 q.2.1 := List.forall_mem_append.mpr ⟨fs_100, fl_100⟩
theorem r_101 : ∀ q ∈ cd_101, decode (mB 101) q.1 = .ok (q.2.2.1, q.2.1) := sm_all (by decide +kernel)
theorem fs_101 : ∀ q ∈ sp_101, sm_F 101 q.1 q.2.2.2 q.2.1 := sm_rsl (fun q h => r_101 q (List.mem_append_left _ h)) (by decide +kernel)
theorem fl_101 : ∀ q ∈ lk_101, sm_F 101 q.1 q.2.2.2 q.2.1 := List.forall_mem_cons.mpr ⟨(⟨by decide, by decide, rfl, 13, (r_101 _ (List.mem_of_getElem? (i := 15) rfl)), Or.inl tw_t730⟩ : sm_F 101 1 (.getfield 258) 3),
  List.forall_mem_cons.mpr ⟨(⟨by decide, by decide, rfl, 48, (r_101 _ (List.mem_of_getElem? (i := 16) rfl)), Or.inl tw_t741⟩ : sm_F 101 13 (.getfield 269) 3),
  List.forall_mem_cons.mpr ⟨(⟨by decide, by decide, rfl, 13, (r_101 _ (List.mem_of_getElem? (i := 17) rfl)), Or.inl tw_t730⟩ : sm_F 101 17 (.getfield 258) 3),
  List.forall_mem_cons.mpr ⟨(⟨by decide, by decide, rfl, 13, (r_101 _ (List.mem_of_getElem? (i := 18) rfl)), Or.inl tw_t730⟩ : sm_F 101 24 (.getfield 258) 3),
  List.forall_mem_cons.mpr ⟨(⟨by decide, by decide, rfl, 13, (r_101 _ (List.mem_of_getElem? (i := 19) rfl)), Or.inl ⟨rfl, Or.inl tw_t730⟩⟩ : sm_F 101 29 (.putfield 258) 3),
  List.forall_mem_cons.mpr ⟨(⟨by decide, by decide, rfl, 13, (r_101 _ (List.mem_of_getElem? (i := 20) rfl)), Or.inl tw_t730⟩ : sm_F 101 33 (.getfield 258) 3),
  fun _ h => absurd h List.not_mem_nil⟩⟩⟩⟩⟩⟩
theorem f_101 : ∀ q ∈ cd_101, sm_F 101 q.1 q.2.2.2 q.2.1 := List.forall_mem_append.mpr ⟨fs_101, fl_101⟩
theorem r_102 : ∀ q ∈ cd_102, decode (mB 102) q.1 = .ok (q.2.2.1, q.2.1) := sm_all (by decide +kernel)
theorem fs_102 : ∀ q ∈ sp_102, sm_F 102 q.1 q.2.2.2 q.2.1 := sm_rsl (fun q h => r_102 q (List.mem_append_left _ h)) (by decide +kernel)
theorem fl_102 : ∀ q ∈ lk_102, sm_F 102 q.1 q.2.2.2 q.2.1 := List.forall_mem_cons.mpr ⟨(⟨by decide, by decide, rfl, 13, (r_102 _ (List.mem_of_getElem? (i := 6) rfl)), Or.inl tw_t730⟩ : sm_F 102 1 (.getfield 258) 3),
  List.forall_mem_cons.mpr ⟨(⟨by decide, by decide, rfl, 13, (r_102 _ (List.mem_of_getElem? (i := 7) rfl)), Or.inl ⟨rfl, Or.inl tw_t730⟩⟩ : sm_F 102 7 (.putfield 258) 3),
  fun _ h => absurd h List.not_mem_nil⟩⟩
theorem f_102 : ∀ q ∈ cd_102, sm_F 102 q.1 q.2.2.2 q.2.1 := List.forall_mem_append.mpr ⟨fs_102, fl_102⟩
theorem r_103 : ∀ q ∈ cd_103, decode (mB 103) q.1 = .ok (q.2.2.1, q.2.1) := sm_all (by decide +kernel)
theorem fs_103 : ∀ q ∈ sp_103, sm_F 103 q.1 q.2.2.2 q.2.1 := sm_rsl (fun q h => r_103 q (List.mem_append_left _ h)) (by decide +kernel)
theorem fl_103 : ∀ q ∈ lk_103, sm_F 103 q.1 q.2.2.2 q.2.1 := List.forall_mem_cons.mpr ⟨(⟨by decide, by decide, rfl, 16, (r_103 _ (List.mem_of_getElem? (i := 115) rfl)), Or.inl tw_t731⟩ : sm_F 103 1 (.getfield 259) 3),
  List.forall_mem_cons.mpr ⟨(⟨rfl, mf_104, tw_t847, tw_p19, rfl, by decide, 240, (r_103 _ (List.mem_of_getElem? (i := 116) rfl)), Or.inl tw_t845⟩ : sm_F 103 13 (.invokevirtual 104) 3),
  List.forall_mem_cons.mpr ⟨(⟨by decide, by decide, rfl, 41, (r_103 _ (List.mem_of_getElem? (i := 117) rfl)), Or.inl tw_t739⟩ : sm_F 103 17 (.getfield 267) 3),
  List.forall_mem_cons.mpr ⟨(⟨by decide, by decide, rfl, 70, (r_103 _ (List.mem_of_getElem? (i := 118) rfl)), Or.inl ⟨rfl, Or.inl tw_t748⟩⟩ : sm_F 103 27 (.putfield 276) 3),
  List.forall_mem_cons.mpr ⟨(⟨by decide, by decide, rfl, 67, (r_103 _ (List.mem_of_getElem? (i := 119) rfl)), Or.inl tw_t747⟩ : sm_F 103 31 (.getfield 275) 3),
  List.forall_mem_cons.mpr ⟨(⟨rfl, mf_112, tw_t882, tw_p27, rfl, by decide, 129, (r_103 _ (List.mem_of_getElem? (i := 120) rfl)), Or.inl tw_t880⟩ : sm_F 103 48 (.invokevirtual 112) 3),
  List.forall_mem_cons.mpr ⟨(⟨rfl, mf_110, tw_t874, tw_p25, rfl, by decide, 220, (r_103 _ (List.mem_of_getElem? (i := 121) rfl)), Or.inl tw_t872⟩ : sm_F 103 77 (.invokevirtual 110) 3),
  List.forall_mem_cons.mpr ⟨(⟨by decide, by decide, rfl, 82, (r_103 _ (List.mem_of_getElem? (i := 122) rfl)), Or.inl tw_t752⟩ : sm_F 103 81 (.getfield 280) 3),
  List.forall_mem_cons.mpr ⟨(⟨rfl, mf_109, tw_t870, tw_p24, rfl, by decide, 227, (r_103 _ (List.mem_of_getElem? (i := 123) rfl)), Or.inl tw_t868⟩ : sm_F 103 86 (.invokevirtual 109) 3),
  List.forall_mem_cons.mpr ⟨(⟨by decide, by decide, rfl, 70, (r_103 _ (List.mem_of_getElem? (i := 124) rfl)), Or.inl ⟨rfl, Or.inl tw_t748⟩⟩ : sm_F 103 91 (.putfield 276) 3),
  List.forall_mem_cons.mpr ⟨(⟨by decide, by decide, rfl, 67, (r_103 _ (List.mem_of_getElem? (i := 125) rfl)), Or.inl tw_t747⟩ : sm_F 103 95 (.getfield 275) 3),
  List.forall_mem_cons.mpr ⟨(Or.inr ⟨243, (r_103 _ (List.mem_of_getElem? (i := 126) rfl)), rfl, tw_t959⟩ : sm_F 103 135 (.ldc2_w 1416787301) 3),
  List.forall_mem_cons.mpr ⟨(Or.inr ⟨245, (r_103 _ (List.mem_of_getElem? (i := 127) rfl)), rfl, tw_t960⟩ : sm_F 103 141 (.ldc2_w 302282208101) 3),
  List.forall_mem_cons.mpr ⟨(⟨rfl, mf_124, tw_t963, tw_p39, rfl, by decide, 247, (r_103 _ (List.mem_of_getElem? (i := 128) rfl)), Or.inl tw_t961⟩ : sm_F 103 144 (.invokevirtual 124) 3),
  List.forall_mem_cons.mpr ⟨(Or.inr ⟨250, (r_103 _ (List.mem_of_getElem? (i := 129) rfl)), rfl, tw_t966⟩ : sm_F 103 155 (.ldc2_w 1316318316) 3),
  List.forall_mem_cons.mpr ⟨(⟨rfl, mf_124, tw_t963, tw_p39, rfl, by decide, 247, (r_103 _ (List.mem_of_getElem? (i := 130) rfl)), Or.inl tw_t961⟩ : sm_F 103 158 (.invokevirtual 124) 3),
  List.forall_mem_cons.mpr ⟨(Or.inr ⟨230, (r_103 _ (List.mem_of_getElem? (i := 131) rfl)), rfl, tw_t965⟩ : sm_F 103 171 (.ldc2_w 107148485161588) 3),
  List.forall_mem_cons.mpr ⟨(⟨rfl, mf_105, tw_t852, tw_p20, rfl, by decide, 112, (r_103 _ (List.mem_of_getElem? (i := 132) rfl)), Or.inl tw_t850⟩ : sm_F 103 174 (.invokevirtual 105) 3),
  List.forall_mem_cons.mpr ⟨(Or.inr ⟨252, (r_103 _ (List.mem_of_getElem? (i := 133) rfl)), rfl, tw_t967⟩ : sm_F 103 178 (.ldc2_w 281092972921) 3),
  List.forall_mem_cons.mpr ⟨(⟨rfl, mf_105, tw_t852, tw_p20, rfl, by decide, 112, (r_103 _ (List.mem_of_getElem? (i := 134) rfl)), Or.inl tw_t850⟩ : sm_F 103 181 (.invokevirtual 105) 3),
  List.forall_mem_cons.mpr ⟨(Or.inr ⟨254, (r_103 _ (List.mem_of_getElem? (i := 135) rfl)), rfl, tw_t968⟩ : sm_F 103 185 (.ldc2_w 19546522352644904) 3),
  List.forall_mem_cons.mpr ⟨(⟨rfl, mf_105, tw_t852, tw_p20, rfl, by decide, 112, (r_103 _ (List.mem_of_getElem? (i := 136) rfl)), Or.inl tw_t850⟩ : sm_F 103 188 (.invokevirtual 105) 3),
  List.forall_mem_cons.mpr ⟨(Or.inr ⟨256, (r_103 _ (List.mem_of_getElem? (i := 137) rfl)), rfl, tw_t969⟩ : sm_F 103 200 (.ldc2_w 76353602940019) 3),
  List.forall_mem_cons.mpr ⟨(⟨rfl, mf_124, tw_t963, tw_p39, rfl, by decide, 247, (r_103 _ (List.mem_of_getElem? (i := 138) rfl)), Or.inl tw_t961⟩ : sm_F 103 203 (.invokevirtual 124) 3),
  List.forall_mem_cons.mpr ⟨(⟨rfl, mf_125, tw_t972, tw_p40, rfl, by decide, 258, (r_103 _ (List.mem_of_getElem? (i := 139) rfl)), Or.inl tw_t970⟩ : sm_F 103 213 (.invokevirtual 125) 3),
  List.forall_mem_cons.mpr ⟨(⟨rfl, mf_106, tw_t857, tw_p21, rfl, by decide, 102, (r_103 _ (List.mem_of_getElem? (i := 140) rfl)), Or.inl tw_t855⟩ : sm_F 103 219 (.invokevirtual 106) 3),
  List.forall_mem_cons.mpr ⟨(⟨rfl, mf_106, tw_t857, tw_p21, rfl, by decide, 102, (r_103 _ (List.mem_of_getElem? (i := 141) rfl)), Or.inl tw_t855⟩ : sm_F 103 225 (.invokevirtual 106) 3),
  List.forall_mem_cons.mpr ⟨(⟨rfl, mf_125, tw_t972, tw_p40, rfl, by decide, 258, (r_103 _ (List.mem_of_getElem? (i := 142) rfl)), Or.inl tw_t970⟩ : sm_F 103 230 (.invokevirtual 125) 3),
  List.forall_mem_cons.mpr ⟨(Or.inr ⟨261, (r_103 _ (List.mem_of_getElem? (i := 143) rfl)), rfl, tw_t974⟩ : sm_F 103 257 (.ldc2_w 48516758909030) 3),
  List.forall_mem_cons.mpr ⟨(Or.inr ⟨263, (r_103 _ (List.mem_of_getElem? (i := 144) rfl)), rfl, tw_t975⟩ : sm_F 103 263 (.ldc2_w 189518589488) 3),
  List.forall_mem_cons.mpr ⟨(⟨rfl, mf_105, tw_t852, tw_p20, rfl, by decide, 112, (r_103 _ (List.mem_of_getElem? (i := 145) rfl)), Or.inl tw_t850⟩ : sm_F 103 266 (.invokevirtual 105) 3),
  List.forall_mem_cons.mpr ⟨(⟨rfl, mf_106, tw_t857, tw_p21, rfl, by decide, 102, (r_103 _ (List.mem_of_getElem? (i := 146) rfl)), Or.inl tw_t855⟩ : sm_F 103 278 (.invokevirtual 106) 3),
  List.forall_mem_cons.mpr ⟨(⟨rfl, mf_106, tw_t857, tw_p21, rfl, by decide, 102, (r_103 _ (List.mem_of_getElem? (i := 147) rfl)), Or.inl tw_t855⟩ : sm_F 103 284 (.invokevirtual 106) 3),
  List.forall_mem_cons.mpr ⟨(⟨rfl, mf_126, tw_t978, tw_p41, rfl, by decide, 265, (r_103 _ (List.mem_of_getElem? (i := 148) rfl)), Or.inl tw_t976⟩ : sm_F 103 289 (.invokevirtual 126) 3),
  fun _ h => absurd h List.not_mem_nil⟩⟩⟩⟩⟩⟩⟩⟩⟩⟩⟩⟩⟩⟩⟩⟩⟩⟩⟩⟩⟩⟩⟩⟩⟩⟩⟩⟩⟩⟩⟩⟩⟩⟩
theorem f_103 : ∀ q ∈ cd_103, sm_F 103 q.1 q.2.2.2 q.2.1 := List.forall_mem_append.mpr ⟨fs_103, fl_103⟩
theorem r_104 : ∀ q ∈ cd_104, decode (mB 104) q.1 = .ok (q.2.2.1, q.2.1) := sm_all (by decide +kernel)
theorem fs_104 : ∀ q ∈ sp_104, sm_F 104 q.1 q.2.2.2 q.2.1 := sm_rsl (fun q h => r_104 q (List.mem_append_left _ h)) (by decide +kernel)
theorem fl_104 : ∀ q ∈ lk_104, sm_F 104 q.1 q.2.2.2 q.2.1 := List.forall_mem_cons.mpr ⟨(⟨by decide, by decide, rfl, 70, (r_104 _ (List.mem_of_getElem? (i := 18) rfl)), Or.inl ⟨rfl, Or.inl tw_t748⟩⟩ : sm_F 104 2 (.putfield 276) 3),
  List.forall_mem_cons.mpr ⟨(⟨by decide, by decide, rfl, 67, (r_104 _ (List.mem_of_getElem? (i := 19) rfl)), Or.inl tw_t747⟩ : sm_F 104 6 (.getfield 275) 3),
  List.forall_mem_cons.mpr ⟨(⟨by decide, by decide, rfl, 19, (r_104 _ (List.mem_of_getElem? (i := 20) rfl)), Or.inl ⟨rfl, Or.inl tw_t732⟩⟩ : sm_F 104 14 (.putfield 260) 3),
  List.forall_mem_cons.mpr ⟨(⟨by decide, by decide, rfl, 73, (r_104 _ (List.mem_of_getElem? (i := 21) rfl)), Or.inl ⟨rfl, Or.inl tw_t749⟩⟩ : sm_F 104 19 (.putfield 277) 3),
  List.forall_mem_cons.mpr ⟨(Or.inr ⟨223, (r_104 _ (List.mem_of_getElem? (i := 22) rfl)), rfl, tw_t849⟩ : sm_F 104 23 (.ldc2_w 6080266760336191090) 3),
  List.forall_mem_cons.mpr ⟨(⟨rfl, mf_105, tw_t852, tw_p20, rfl, by decide, 112, (r_104 _ (List.mem_of_getElem? (i := 23) rfl)), Or.inl tw_t850⟩ : sm_F 104 26 (.invokevirtual 105) 3),
  List.forall_mem_cons.mpr ⟨(Or.inr ⟨225, (r_104 _ (List.mem_of_getElem? (i := 24) rfl)), rfl, tw_t859⟩ : sm_F 104 30 (.ldc2_w 7695912) 3),
  List.forall_mem_cons.mpr ⟨(⟨rfl, mf_105, tw_t852, tw_p20, rfl, by decide, 112, (r_104 _ (List.mem_of_getElem? (i := 25) rfl)), Or.inl tw_t850⟩ : sm_F 104 33 (.invokevirtual 105) 3),
  List.forall_mem_cons.mpr ⟨(⟨rfl, mf_107, tw_t862, tw_p22, rfl, by decide, 189, (r_104 _ (List.mem_of_getElem? (i := 26) rfl)), Or.inl tw_t860⟩ : sm_F 104 38 (.invokevirtual 107) 3),
  List.forall_mem_cons.mpr ⟨(⟨rfl, mf_109, tw_t870, tw_p24, rfl, by decide, 227, (r_104 _ (List.mem_of_getElem? (i := 27) rfl)), Or.inl tw_t868⟩ : sm_F 104 42 (.invokevirtual 109) 3),
  List.forall_mem_cons.mpr ⟨(⟨rfl, mf_106, tw_t857, tw_p21, rfl, by decide, 102, (r_104 _ (List.mem_of_getElem? (i := 28) rfl)), Or.inl tw_t855⟩ : sm_F 104 48 (.invokevirtual 106) 3),
  fun _ h => absurd h List.not_mem_nil⟩⟩⟩⟩⟩⟩⟩⟩⟩⟩⟩
theorem f_104 : ∀ q ∈ cd_104, sm_F 104 q.1 q.2.2.2 q.2.1 := List.forall_mem_append.mpr ⟨fs_104, fl_104⟩
theorem r_105 : ∀ q ∈ cd_105, decode (mB 105) q.1 = .ok (q.2.2.1, q.2.1) := sm_all (by decide +kernel)
theorem fs_105 : ∀ q ∈ sp_105, sm_F 105 q.1 q.2.2.2 q.2.1 := sm_rsl (fun q h => r_105 q (List.mem_append_left _ h)) (by decide +kernel)
theorem fl_105 : ∀ q ∈ lk_105, sm_F 105 q.1 q.2.2.2 q.2.1 := List.forall_mem_cons.mpr ⟨(Or.inr ⟨100, (r_105 _ (List.mem_of_getElem? (i := 20) rfl)), rfl, tw_t854⟩ : sm_F 105 10 (.ldc2_w 255) 3),
  List.forall_mem_cons.mpr ⟨(Or.inr ⟨100, (r_105 _ (List.mem_of_getElem? (i := 21) rfl)), rfl, tw_t854⟩ : sm_F 105 23 (.ldc2_w 255) 3),
  List.forall_mem_cons.mpr ⟨(⟨rfl, mf_106, tw_t857, tw_p21, rfl, by decide, 102, (r_105 _ (List.mem_of_getElem? (i := 22) rfl)), Or.inl tw_t855⟩ : sm_F 105 28 (.invokevirtual 106) 3),
  fun _ h => absurd h List.not_mem_nil⟩⟩⟩
theorem f_105 : ∀ q ∈ cd_105, sm_F 105 q.1 q.2.2.2 q.2.1 := List.forall_mem_append.mpr ⟨fs_105, fl_105⟩
theorem r_106 : ∀ q ∈ cd_106, decode (mB 106) q.1 = .ok (q.2.2.1, q.2.1) := sm_all (by decide +kernel)
theorem fs_106 : ∀ q ∈ sp_106, sm_F 106 q.1 q.2.2.2 q.2.1 := sm_rsl (fun q h => r_106 q (List.mem_append_left _ h)) (by decide +kernel)
theorem fl_106 : ∀ q ∈ lk_106, sm_F 106 q.1 q.2.2.2 q.2.1 := List.forall_mem_cons.mpr ⟨(⟨by decide, by decide, rfl, 67, (r_106 _ (List.mem_of_getElem? (i := 24) rfl)), Or.inl tw_t747⟩ : sm_F 106 1 (.getfield 275) 3),
  List.forall_mem_cons.mpr ⟨(⟨by decide, by decide, rfl, 70, (r_106 _ (List.mem_of_getElem? (i := 25) rfl)), Or.inl tw_t748⟩ : sm_F 106 5 (.getfield 276) 3),
  List.forall_mem_cons.mpr ⟨(⟨by decide, by decide, rfl, 64, (r_106 _ (List.mem_of_getElem? (i := 26) rfl)), Or.inl tw_t746⟩ : sm_F 106 16 (.getfield 274) 3),
  List.forall_mem_cons.mpr ⟨(⟨by decide, by decide, rfl, 70, (r_106 _ (List.mem_of_getElem? (i := 27) rfl)), Or.inl tw_t748⟩ : sm_F 106 20 (.getfield 276) 3),
  List.forall_mem_cons.mpr ⟨(⟨by decide, by decide, rfl, 67, (r_106 _ (List.mem_of_getElem? (i := 28) rfl)), Or.inl tw_t747⟩ : sm_F 106 28 (.getfield 275) 3),
  List.forall_mem_cons.mpr ⟨(⟨by decide, by decide, rfl, 70, (r_106 _ (List.mem_of_getElem? (i := 29) rfl)), Or.inl tw_t748⟩ : sm_F 106 32 (.getfield 276) 3),
  List.forall_mem_cons.mpr ⟨(⟨by decide, by decide, rfl, 67, (r_106 _ (List.mem_of_getElem? (i := 30) rfl)), Or.inl tw_t747⟩ : sm_F 106 41 (.getfield 275) 3),
  List.forall_mem_cons.mpr ⟨(⟨by decide, by decide, rfl, 70, (r_106 _ (List.mem_of_getElem? (i := 31) rfl)), Or.inl tw_t748⟩ : sm_F 106 45 (.getfield 276) 3),
  fun _ h => absurd h List.not_mem_nil⟩⟩⟩⟩⟩⟩⟩⟩
theorem f_106 : ∀ q ∈ cd_106, sm_F 106 q.1 q.2.2.2 q.2.1 := List.forall_mem_append.mpr ⟨fs_106, fl_106⟩
theorem r_107 : ∀ q ∈ cd_107, decode (mB 107) q.1 = .ok (q.2.2.1, q.2.1) := sm_all (by decide +kernel)
theorem fs_107 : ∀ q ∈ sp_107, sm_F 107 q.1 q.2.2.2 q.2.1 := sm_rsl (fun q h => r_107 q (List.mem_append_left _ h)) (by decide +kernel)
theorem fl_107 : ∀ q ∈ lk_107, sm_F 107 q.1 q.2.2.2 q.2.1 := List.forall_mem_cons.mpr ⟨(⟨by decide, by decide, rfl, 79, (r_107 _ (List.mem_of_getElem? (i := 74) rfl)), Or.inl tw_t751⟩ : sm_F 107 8 (.getfield 279) 3),
  List.forall_mem_cons.mpr ⟨(⟨by decide, by decide, rfl, 44, (r_107 _ (List.mem_of_getElem? (i := 75) rfl)), Or.inl tw_t740⟩ : sm_F 107 19 (.getfield 268) 3),
  List.forall_mem_cons.mpr ⟨(⟨rfl, mf_108, tw_t866, tw_p23, rfl, by decide, 179, (r_107 _ (List.mem_of_getElem? (i := 76) rfl)), Or.inl tw_t864⟩ : sm_F 107 35 (.invokevirtual 108) 3),
  List.forall_mem_cons.mpr ⟨(⟨rfl, mf_108, tw_t866, tw_p23, rfl, by decide, 179, (r_107 _ (List.mem_of_getElem? (i := 77) rfl)), Or.inl tw_t864⟩ : sm_F 107 41 (.invokevirtual 108) 3),
  List.forall_mem_cons.mpr ⟨(⟨rfl, mf_108, tw_t866, tw_p23, rfl, by decide, 179, (r_107 _ (List.mem_of_getElem? (i := 78) rfl)), Or.inl tw_t864⟩ : sm_F 107 48 (.invokevirtual 108) 3),
  List.forall_mem_cons.mpr ⟨(⟨by decide, by decide, rfl, 41, (r_107 _ (List.mem_of_getElem? (i := 79) rfl)), Or.inl tw_t739⟩ : sm_F 107 52 (.getfield 267) 3),
  List.forall_mem_cons.mpr ⟨(⟨by decide, by decide, rfl, 41, (r_107 _ (List.mem_of_getElem? (i := 80) rfl)), Or.inl tw_t739⟩ : sm_F 107 70 (.getfield 267) 3),
  List.forall_mem_cons.mpr ⟨(⟨by decide, by decide, rfl, 79, (r_107 _ (List.mem_of_getElem? (i := 81) rfl)), Or.inl tw_t751⟩ : sm_F 107 98 (.getfield 279) 3),
  List.forall_mem_cons.mpr ⟨(⟨by decide, by decide, rfl, 76, (r_107 _ (List.mem_of_getElem? (i := 82) rfl)), Or.inl tw_t750⟩ : sm_F 107 113 (.getfield 278) 3),
  List.forall_mem_cons.mpr ⟨(⟨by decide, by decide, rfl, 76, (r_107 _ (List.mem_of_getElem? (i := 83) rfl)), Or.inl tw_t750⟩ : sm_F 107 122 (.getfield 278) 3),
  List.forall_mem_cons.mpr ⟨(⟨by decide, by decide, rfl, 76, (r_107 _ (List.mem_of_getElem? (i := 84) rfl)), Or.inl tw_t750⟩ : sm_F 107 128 (.getfield 278) 3),
  List.forall_mem_cons.mpr ⟨(⟨by decide, by decide, rfl, 76, (r_107 _ (List.mem_of_getElem? (i := 85) rfl)), Or.inl tw_t750⟩ : sm_F 107 136 (.getfield 278) 3),
  fun _ h => absurd h List.not_mem_nil⟩⟩⟩⟩⟩⟩⟩⟩⟩⟩⟩⟩
theorem f_107 : ∀ q ∈ cd_107, sm_F 107 q.1 q.2.2.2 q.2.1 := List.forall_mem_append.mpr ⟨fs_107, fl_107⟩
theorem r_108 : ∀ q ∈ cd_108, decode (mB 108) q.1 = .ok (q.2.2.1, q.2.1) := sm_all (by decide +kernel)
theorem fs_108 : ∀ q ∈ sp_108, sm_F 108 q.1 q.2.2.2 q.2.1 := sm_rsl (fun q h => r_108 q (List.mem_append_left _ h)) (by decide +kernel)
theorem fl_108 : ∀ q ∈ lk_108, sm_F 108 q.1 q.2.2.2 q.2.1 := List.forall_mem_cons.mpr ⟨(⟨by decide, by decide, rfl, 76, (r_108 _ (List.mem_of_getElem? (i := 9) rfl)), Or.inl tw_t750⟩ : sm_F 108 1 (.getfield 278) 3),
  List.forall_mem_cons.mpr ⟨(⟨by decide, by decide, rfl, 79, (r_108 _ (List.mem_of_getElem? (i := 10) rfl)), Or.inl tw_t751⟩ : sm_F 108 5 (.getfield 279) 3),
  List.forall_mem_cons.mpr ⟨(⟨by decide, by decide, rfl, 79, (r_108 _ (List.mem_of_getElem? (i := 11) rfl)), Or.inl tw_t751⟩ : sm_F 108 12 (.getfield 279) 3),
  List.forall_mem_cons.mpr ⟨(⟨by decide, by decide, rfl, 79, (r_108 _ (List.mem_of_getElem? (i := 12) rfl)), Or.inl ⟨rfl, Or.inl tw_t751⟩⟩ : sm_F 108 17 (.putfield 279) 3),
  fun _ h => absurd h List.not_mem_nil⟩⟩⟩⟩
theorem f_108 : ∀ q ∈ cd_108, sm_F 108 q.1 q.2.2.2 q.2.1 := List.forall_mem_append.mpr ⟨fs_108, fl_108⟩
theorem r_109 : ∀ q ∈ cd_109, decode (mB 109) q.1 = .ok (q.2.2.1, q.2.1) := sm_all (by decide +kernel)
theorem fs_109 : ∀ q ∈ sp_109, sm_F 109 q.1 q.2.2.2 q.2.1 := sm_rsl (fun q h => r_109 q (List.mem_append_left _ h)) (by decide +kernel)
theorem fl_109 : ∀ q ∈ lk_109, sm_F 109 q.1 q.2.2.2 q.2.1 := List.forall_mem_cons.mpr ⟨(⟨by decide, by decide, rfl, 79, (r_109 _ (List.mem_of_getElem? (i := 38) rfl)), Or.inl tw_t751⟩ : sm_F 109 1 (.getfield 279) 3),
  List.forall_mem_cons.mpr ⟨(⟨by decide, by decide, rfl, 79, (r_109 _ (List.mem_of_getElem? (i := 39) rfl)), Or.inl tw_t751⟩ : sm_F 109 9 (.getfield 279) 3),
  List.forall_mem_cons.mpr ⟨(⟨by decide, by decide, rfl, 79, (r_109 _ (List.mem_of_getElem? (i := 40) rfl)), Or.inl ⟨rfl, Or.inl tw_t751⟩⟩ : sm_F 109 14 (.putfield 279) 3),
  List.forall_mem_cons.mpr ⟨(⟨by decide, by decide, rfl, 76, (r_109 _ (List.mem_of_getElem? (i := 41) rfl)), Or.inl tw_t750⟩ : sm_F 109 18 (.getfield 278) 3),
  List.forall_mem_cons.mpr ⟨(⟨by decide, by decide, rfl, 79, (r_109 _ (List.mem_of_getElem? (i := 42) rfl)), Or.inl tw_t751⟩ : sm_F 109 22 (.getfield 279) 3),
  List.forall_mem_cons.mpr ⟨(⟨rfl, mf_106, tw_t857, tw_p21, rfl, by decide, 102, (r_109 _ (List.mem_of_getElem? (i := 43) rfl)), Or.inl tw_t855⟩ : sm_F 109 34 (.invokevirtual 106) 3),
  List.forall_mem_cons.mpr ⟨(⟨by decide, by decide, rfl, 73, (r_109 _ (List.mem_of_getElem? (i := 44) rfl)), Or.inl tw_t749⟩ : sm_F 109 49 (.getfield 277) 3),
  List.forall_mem_cons.mpr ⟨(⟨by decide, by decide, rfl, 73, (r_109 _ (List.mem_of_getElem? (i := 45) rfl)), Or.inl ⟨rfl, Or.inl tw_t749⟩⟩ : sm_F 109 54 (.putfield 277) 3),
  List.forall_mem_cons.mpr ⟨(⟨rfl, mf_110, tw_t874, tw_p25, rfl, by decide, 220, (r_109 _ (List.mem_of_getElem? (i := 46) rfl)), Or.inl tw_t872⟩ : sm_F 109 76 (.invokevirtual 110) 3),
  fun _ h => absurd h List.not_mem_nil⟩⟩⟩⟩⟩⟩⟩⟩⟩
theorem f_109 : ∀ q ∈ cd_109, sm_F 109 q.1 q.2.2.2 q.2.1 := List.forall_mem_append.mpr ⟨fs_109, fl_109⟩
theorem r_110 : ∀ q ∈ cd_110, decode (mB 110) q.1 = .ok (q.2.2.1, q.2.1) := sm_all (by decide +kernel)
theorem fs_110 : ∀ q ∈ sp_110, sm_F 110 q.1 q.2.2.2 q.2.1 := sm_rsl (fun q h => r_110 q (List.mem_append_left _ h)) (by decide +kernel)
theorem fl_110 : ∀ q ∈ lk_110, sm_F 110 q.1 q.2.2.2 q.2.1 := List.forall_mem_cons.mpr ⟨(⟨by decide, by decide, rfl, 41, (r_110 _ (List.mem_of_getElem? (i := 78) rfl)), Or.inl tw_t739⟩ : sm_F 110 1 (.getfield 267) 3),
  List.forall_mem_cons.mpr ⟨(⟨by decide, by decide, rfl, 82, (r_110 _ (List.mem_of_getElem? (i := 79) rfl)), Or.inl ⟨rfl, Or.inl tw_t752⟩⟩ : sm_F 110 9 (.putfield 280) 3),
  List.forall_mem_cons.mpr ⟨(⟨rfl, mf_111, tw_t878, tw_p26, rfl, by decide, 192, (r_110 _ (List.mem_of_getElem? (i := 80) rfl)), Or.inl tw_t876⟩ : sm_F 110 21 (.invokevirtual 111) 3),
  List.forall_mem_cons.mpr ⟨(⟨by decide, by decide, rfl, 41, (r_110 _ (List.mem_of_getElem? (i := 81) rfl)), Or.inl tw_t739⟩ : sm_F 110 35 (.getfield 267) 3),
  List.forall_mem_cons.mpr ⟨(⟨rfl, mf_115, tw_t905, tw_p30, rfl, by decide, 196, (r_110 _ (List.mem_of_getElem? (i := 82) rfl)), Or.inl tw_t903⟩ : sm_F 110 45 (.invokevirtual 115) 3),
  List.forall_mem_cons.mpr ⟨(⟨rfl, mf_112, tw_t882, tw_p27, rfl, by decide, 129, (r_110 _ (List.mem_of_getElem? (i := 83) rfl)), Or.inl tw_t880⟩ : sm_F 110 59 (.invokevirtual 112) 3),
  List.forall_mem_cons.mpr ⟨(Or.inr ⟨199, (r_110 _ (List.mem_of_getElem? (i := 84) rfl)), rfl, tw_t908⟩ : sm_F 110 68 (.ldc2_w 1953658213) 3),
  List.forall_mem_cons.mpr ⟨(Or.inr ⟨201, (r_110 _ (List.mem_of_getElem? (i := 85) rfl)), rfl, tw_t909⟩ : sm_F 110 74 (.ldc2_w 439721161573) 3),
  List.forall_mem_cons.mpr ⟨(⟨rfl, mf_105, tw_t852, tw_p20, rfl, by decide, 112, (r_110 _ (List.mem_of_getElem? (i := 86) rfl)), Or.inl tw_t850⟩ : sm_F 110 77 (.invokevirtual 105) 3),
  List.forall_mem_cons.mpr ⟨(⟨rfl, mf_116, tw_t912, tw_p31, rfl, by decide, 203, (r_110 _ (List.mem_of_getElem? (i := 87) rfl)), Or.inl tw_t910⟩ : sm_F 110 90 (.invokevirtual 116) 3),
  List.forall_mem_cons.mpr ⟨(⟨rfl, mf_112, tw_t882, tw_p27, rfl, by decide, 129, (r_110 _ (List.mem_of_getElem? (i := 88) rfl)), Or.inl tw_t880⟩ : sm_F 110 105 (.invokevirtual 112) 3),
  List.forall_mem_cons.mpr ⟨(⟨rfl, mf_119, tw_t933, tw_p34, rfl, by decide, 206, (r_110 _ (List.mem_of_getElem? (i := 89) rfl)), Or.inl tw_t931⟩ : sm_F 110 109 (.invokevirtual 119) 3),
  List.forall_mem_cons.mpr ⟨(⟨rfl, mf_120, tw_t939, tw_p35, rfl, by decide, 210, (r_110 _ (List.mem_of_getElem? (i := 90) rfl)), Or.inl tw_t937⟩ : sm_F 110 112 (.invokevirtual 120) 3),
  List.forall_mem_cons.mpr ⟨(⟨rfl, mf_106, tw_t857, tw_p21, rfl, by decide, 102, (r_110 _ (List.mem_of_getElem? (i := 91) rfl)), Or.inl tw_t855⟩ : sm_F 110 118 (.invokevirtual 106) 3),
  List.forall_mem_cons.mpr ⟨(⟨rfl, mf_112, tw_t882, tw_p27, rfl, by decide, 129, (r_110 _ (List.mem_of_getElem? (i := 92) rfl)), Or.inl tw_t880⟩ : sm_F 110 132 (.invokevirtual 112) 3),
  List.forall_mem_cons.mpr ⟨(⟨rfl, mf_120, tw_t939, tw_p35, rfl, by decide, 210, (r_110 _ (List.mem_of_getElem? (i := 93) rfl)), Or.inl tw_t937⟩ : sm_F 110 136 (.invokevirtual 120) 3),
  List.forall_mem_cons.mpr ⟨(⟨rfl, mf_121, tw_t944, tw_p36, rfl, by decide, 213, (r_110 _ (List.mem_of_getElem? (i := 94) rfl)), Or.inl tw_t942⟩ : sm_F 110 149 (.invokevirtual 121) 3),
  List.forall_mem_cons.mpr ⟨(⟨rfl, mf_106, tw_t857, tw_p21, rfl, by decide, 102, (r_110 _ (List.mem_of_getElem? (i := 95) rfl)), Or.inl tw_t855⟩ : sm_F 110 164 (.invokevirtual 106) 3),
  List.forall_mem_cons.mpr ⟨(⟨rfl, mf_112, tw_t882, tw_p27, rfl, by decide, 129, (r_110 _ (List.mem_of_getElem? (i := 96) rfl)), Or.inl tw_t880⟩ : sm_F 110 169 (.invokevirtual 112) 3),
  List.forall_mem_cons.mpr ⟨(Or.inr (Or.inr (Or.inr ⟨154, (r_110 _ (List.mem_of_getElem? (i := 97) rfl)), rfl, tw_t946⟩)) : sm_F 110 172 (.iconst 65535) 2),
  List.forall_mem_cons.mpr ⟨(⟨rfl, mf_122, tw_t949, tw_p37, rfl, by decide, 155, (r_110 _ (List.mem_of_getElem? (i := 98) rfl)), Or.inl tw_t947⟩ : sm_F 110 177 (.invokevirtual 122) 3),
  List.forall_mem_cons.mpr ⟨(⟨rfl, mf_106, tw_t857, tw_p21, rfl, by decide, 102, (r_110 _ (List.mem_of_getElem? (i := 99) rfl)), Or.inl tw_t855⟩ : sm_F 110 183 (.invokevirtual 106) 3),
  List.forall_mem_cons.mpr ⟨(⟨rfl, mf_123, tw_t953, tw_p38, rfl, by decide, 216, (r_110 _ (List.mem_of_getElem? (i := 100) rfl)), Or.inl tw_t951⟩ : sm_F 110 191 (.invokevirtual 123) 3),
  fun _ h => absurd h List.not_mem_nil⟩⟩⟩⟩⟩⟩⟩⟩⟩⟩⟩⟩⟩⟩⟩⟩⟩⟩⟩⟩⟩⟩⟩
theorem f_110 : ∀ q ∈ cd_110, sm_F 110 q.1 q.2.2.2 q.2.1 := List.forall_mem_append.mpr ⟨fs_110, fl_110⟩
theorem r_111 : ∀ q ∈ cd_111, decode (mB 111) q.1 = .ok (q.2.2.1, q.2.1) := sm_all (by decide +kernel)
theorem fs_111 : ∀ q ∈ sp_111, sm_F 111 q.1 q.2.2.2 q.2.1 := sm_rsl (fun q h => r_111 q (List.mem_append_left _ h)) (by decide +kernel)
theorem fl_111 : ∀ q ∈ lk_111, sm_F 111 q.1 q.2.2.2 q.2.1 := List.forall_mem_cons.mpr ⟨(⟨rfl, mf_112, tw_t882, tw_p27, rfl, by decide, 129, (r_111 _ (List.mem_of_getElem? (i := 41) rfl)), Or.inl tw_t880⟩ : sm_F 111 1 (.invokevirtual 112) 3),
  List.forall_mem_cons.mpr ⟨(⟨rfl, mf_113, tw_t886, tw_p28, rfl, by decide, 151, (r_111 _ (List.mem_of_getElem? (i := 42) rfl)), Or.inl tw_t884⟩ : sm_F 111 10 (.invokevirtual 113) 3),
  List.forall_mem_cons.mpr ⟨(Or.inr ⟨182, (r_111 _ (List.mem_of_getElem? (i := 43) rfl)), rfl, tw_t889⟩ : sm_F 111 19 (.ldc2_w 1852143392) 3),
  List.forall_mem_cons.mpr ⟨(⟨rfl, mf_105, tw_t852, tw_p20, rfl, by decide, 112, (r_111 _ (List.mem_of_getElem? (i := 44) rfl)), Or.inl tw_t850⟩ : sm_F 111 22 (.invokevirtual 105) 3),
  List.forall_mem_cons.mpr ⟨(⟨rfl, mf_114, tw_t892, tw_p29, rfl, by decide, 184, (r_111 _ (List.mem_of_getElem? (i := 45) rfl)), Or.inl tw_t890⟩ : sm_F 111 27 (.invokevirtual 114) 3),
  List.forall_mem_cons.mpr ⟨(⟨rfl, mf_106, tw_t857, tw_p21, rfl, by decide, 102, (r_111 _ (List.mem_of_getElem? (i := 46) rfl)), Or.inl tw_t855⟩ : sm_F 111 33 (.invokevirtual 106) 3),
  List.forall_mem_cons.mpr ⟨(⟨rfl, mf_106, tw_t857, tw_p21, rfl, by decide, 102, (r_111 _ (List.mem_of_getElem? (i := 47) rfl)), Or.inl tw_t855⟩ : sm_F 111 39 (.invokevirtual 106) 3),
  List.forall_mem_cons.mpr ⟨(⟨rfl, mf_108, tw_t866, tw_p23, rfl, by decide, 179, (r_111 _ (List.mem_of_getElem? (i := 48) rfl)), Or.inl tw_t864⟩ : sm_F 111 45 (.invokevirtual 108) 3),
  List.forall_mem_cons.mpr ⟨(⟨rfl, mf_108, tw_t866, tw_p23, rfl, by decide, 179, (r_111 _ (List.mem_of_getElem? (i := 49) rfl)), Or.inl tw_t864⟩ : sm_F 111 67 (.invokevirtual 108) 3),
  List.forall_mem_cons.mpr ⟨(⟨rfl, mf_108, tw_t866, tw_p23, rfl, by decide, 179, (r_111 _ (List.mem_of_getElem? (i := 50) rfl)), Or.inl tw_t864⟩ : sm_F 111 73 (.invokevirtual 108) 3),
  List.forall_mem_cons.mpr ⟨(⟨rfl, mf_108, tw_t866, tw_p23, rfl, by decide, 179, (r_111 _ (List.mem_of_getElem? (i := 51) rfl)), Or.inl tw_t864⟩ : sm_F 111 84 (.invokevirtual 108) 3),
  fun _ h => absurd h List.not_mem_nil⟩⟩⟩⟩⟩⟩⟩⟩⟩⟩⟩
theorem f_111 : ∀ q ∈ cd_111, sm_F 111 q.1 q.2.2.2 q.2.1 := List.forall_mem_append.mpr ⟨fs_111, fl_111⟩
theorem r_112 : ∀ q ∈ cd_112, decode (mB 112) q.1 = .ok (q.2.2.1, q.2.1) := sm_all (by decide +kernel)
theorem fs_112 : ∀ q ∈ sp_112, sm_F 112 q.1 q.2.2.2 q.2.1 := sm_rsl (fun q h => r_112 q (List.mem_append_left _ h)) (by decide +kernel)
theorem fl_112 : ∀ q ∈ lk_112, sm_F 112 q.1 q.2.2.2 q.2.1 := List.forall_mem_cons.mpr ⟨(⟨by decide, by decide, rfl, 19, (r_112 _ (List.mem_of_getElem? (i := 15) rfl)), Or.inl tw_t732⟩ : sm_F 112 2 (.getfield 260) 3),
  List.forall_mem_cons.mpr ⟨(⟨by decide, by decide, rfl, 19, (r_112 _ (List.mem_of_getElem? (i := 16) rfl)), Or.inl ⟨rfl, Or.inl tw_t732⟩⟩ : sm_F 112 7 (.putfield 260) 3),
  List.forall_mem_cons.mpr ⟨(⟨by decide, by decide, rfl, 19, (r_112 _ (List.mem_of_getElem? (i := 17) rfl)), Or.inl tw_t732⟩ : sm_F 112 11 (.getfield 260) 3),
  List.forall_mem_cons.mpr ⟨(⟨by decide, by decide, rfl, 13, (r_112 _ (List.mem_of_getElem? (i := 18) rfl)), Or.inl tw_t730⟩ : sm_F 112 15 (.getfield 258) 3),
  List.forall_mem_cons.mpr ⟨(⟨by decide, by decide, rfl, 48, (r_112 _ (List.mem_of_getElem? (i := 19) rfl)), Or.inl tw_t741⟩ : sm_F 112 22 (.getfield 269) 3),
  List.forall_mem_cons.mpr ⟨(⟨by decide, by decide, rfl, 19, (r_112 _ (List.mem_of_getElem? (i := 20) rfl)), Or.inl tw_t732⟩ : sm_F 112 26 (.getfield 260) 3),
  fun _ h => absurd h List.not_mem_nil⟩⟩⟩⟩⟩⟩
theorem f_112 : ∀ q ∈ cd_112, sm_F 112 q.1 q.2.2.2 q.2.1 := List.forall_mem_append.mpr ⟨fs_112, fl_112⟩
theorem r_113 : ∀ q ∈ cd_113, decode (mB 113) q.1 = .ok (q.2.2.1, q.2.1) := sm_all (by decide +kernel)
theorem fs_113 : ∀ q ∈ sp_113, sm_F 113 q.1 q.2.2.2 q.2.1 := sm_rsl (fun q h => r_113 q (List.mem_append_left _ h)) (by decide +kernel)
theorem fl_113 : ∀ q ∈ lk_113, sm_F 113 q.1 q.2.2.2 q.2.1 := List.forall_mem_cons.mpr ⟨(Or.inr ⟨159, (r_113 _ (List.mem_of_getElem? (i := 4) rfl)), rfl, tw_t888⟩ : sm_F 113 1 (.ldc2_w 1853189228) 3),
  List.forall_mem_cons.mpr ⟨(⟨rfl, mf_105, tw_t852, tw_p20, rfl, by decide, 112, (r_113 _ (List.mem_of_getElem? (i := 5) rfl)), Or.inl tw_t850⟩ : sm_F 113 4 (.invokevirtual 105) 3),
  List.forall_mem_cons.mpr ⟨(⟨by decide, by decide, rfl, 82, (r_113 _ (List.mem_of_getElem? (i := 6) rfl)), Or.inl ⟨rfl, Or.inl tw_t752⟩⟩ : sm_F 113 9 (.putfield 280) 3),
  fun _ h => absurd h List.not_mem_nil⟩⟩⟩
theorem f_113 : ∀ q ∈ cd_113, sm_F 113 q.1 q.2.2.2 q.2.1 := List.forall_mem_append.mpr ⟨fs_113, fl_113⟩
theorem r_114 : ∀ q ∈ cd_114, decode (mB 114) q.1 = .ok (q.2.2.1, q.2.1) := sm_all (by decide +kernel)
theorem fs_114 : ∀ q ∈ sp_114, sm_F 114 q.1 q.2.2.2 q.2.1 := sm_rsl (fun q h => r_114 q (List.mem_append_left _ h)) (by decide +kernel)
theorem fl_114 : ∀ q ∈ lk_114, sm_F 114 q.1 q.2.2.2 q.2.1 := List.forall_mem_cons.mpr ⟨(⟨by decide, by decide, rfl, 41, (r_114 _ (List.mem_of_getElem? (i := 57) rfl)), Or.inl tw_t739⟩ : sm_F 114 5 (.getfield 267) 3),
  List.forall_mem_cons.mpr ⟨(⟨by decide, by decide, rfl, 41, (r_114 _ (List.mem_of_getElem? (i := 58) rfl)), Or.inl tw_t739⟩ : sm_F 114 26 (.getfield 267) 3),
  List.forall_mem_cons.mpr ⟨(Or.inr ⟨161, (r_114 _ (List.mem_of_getElem? (i := 59) rfl)), rfl, tw_t894⟩ : sm_F 114 145 (.ldc2_w 27707072068280686) 3),
  List.forall_mem_cons.mpr ⟨(⟨rfl, mf_105, tw_t852, tw_p20, rfl, by decide, 112, (r_114 _ (List.mem_of_getElem? (i := 60) rfl)), Or.inl tw_t850⟩ : sm_F 114 148 (.invokevirtual 105) 3),
  List.forall_mem_cons.mpr ⟨(Or.inr ⟨163, (r_114 _ (List.mem_of_getElem? (i := 61) rfl)), rfl, tw_t895⟩ : sm_F 114 155 (.ldc2_w 1652126821) 3),
  List.forall_mem_cons.mpr ⟨(⟨rfl, mf_105, tw_t852, tw_p20, rfl, by decide, 112, (r_114 _ (List.mem_of_getElem? (i := 62) rfl)), Or.inl tw_t850⟩ : sm_F 114 158 (.invokevirtual 105) 3),
  List.forall_mem_cons.mpr ⟨(Or.inr ⟨165, (r_114 _ (List.mem_of_getElem? (i := 63) rfl)), rfl, tw_t896⟩ : sm_F 114 165 (.ldc2_w 1667785074) 3),
  List.forall_mem_cons.mpr ⟨(⟨rfl, mf_105, tw_t852, tw_p20, rfl, by decide, 112, (r_114 _ (List.mem_of_getElem? (i := 64) rfl)), Or.inl tw_t850⟩ : sm_F 114 168 (.invokevirtual 105) 3),
  List.forall_mem_cons.mpr ⟨(Or.inr ⟨167, (r_114 _ (List.mem_of_getElem? (i := 65) rfl)), rfl, tw_t897⟩ : sm_F 114 175 (.ldc2_w 495673373300) 3),
  List.forall_mem_cons.mpr ⟨(⟨rfl, mf_105, tw_t852, tw_p20, rfl, by decide, 112, (r_114 _ (List.mem_of_getElem? (i := 66) rfl)), Or.inl tw_t850⟩ : sm_F 114 178 (.invokevirtual 105) 3),
  List.forall_mem_cons.mpr ⟨(Or.inr ⟨169, (r_114 _ (List.mem_of_getElem? (i := 67) rfl)), rfl, tw_t898⟩ : sm_F 114 185 (.ldc2_w 6909556) 3),
  List.forall_mem_cons.mpr ⟨(⟨rfl, mf_105, tw_t852, tw_p20, rfl, by decide, 112, (r_114 _ (List.mem_of_getElem? (i := 68) rfl)), Or.inl tw_t850⟩ : sm_F 114 188 (.invokevirtual 105) 3),
  List.forall_mem_cons.mpr ⟨(Or.inr ⟨171, (r_114 _ (List.mem_of_getElem? (i := 69) rfl)), rfl, tw_t899⟩ : sm_F 114 195 (.ldc2_w 1819242087) 3),
  List.forall_mem_cons.mpr ⟨(⟨rfl, mf_105, tw_t852, tw_p20, rfl, by decide, 112, (r_114 _ (List.mem_of_getElem? (i := 70) rfl)), Or.inl tw_t850⟩ : sm_F 114 198 (.invokevirtual 105) 3),
  List.forall_mem_cons.mpr ⟨(Or.inr ⟨173, (r_114 _ (List.mem_of_getElem? (i := 71) rfl)), rfl, tw_t900⟩ : sm_F 114 205 (.ldc2_w 439905902964) 3),
  List.forall_mem_cons.mpr ⟨(⟨rfl, mf_105, tw_t852, tw_p20, rfl, by decide, 112, (r_114 _ (List.mem_of_getElem? (i := 72) rfl)), Or.inl tw_t850⟩ : sm_F 114 208 (.invokevirtual 105) 3),
  List.forall_mem_cons.mpr ⟨(Or.inr ⟨175, (r_114 _ (List.mem_of_getElem? (i := 73) rfl)), rfl, tw_t901⟩ : sm_F 114 215 (.ldc2_w 110429873532005) 3),
  List.forall_mem_cons.mpr ⟨(⟨rfl, mf_105, tw_t852, tw_p20, rfl, by decide, 112, (r_114 _ (List.mem_of_getElem? (i := 74) rfl)), Or.inl tw_t850⟩ : sm_F 114 218 (.invokevirtual 105) 3),
  List.forall_mem_cons.mpr ⟨(Or.inr ⟨177, (r_114 _ (List.mem_of_getElem? (i := 75) rfl)), rfl, tw_t902⟩ : sm_F 114 225 (.ldc2_w 91759600823911) 3),
  List.forall_mem_cons.mpr ⟨(⟨rfl, mf_105, tw_t852, tw_p20, rfl, by decide, 112, (r_114 _ (List.mem_of_getElem? (i := 76) rfl)), Or.inl tw_t850⟩ : sm_F 114 228 (.invokevirtual 105) 3),
  List.forall_mem_cons.mpr ⟨(⟨rfl, mf_106, tw_t857, tw_p21, rfl, by decide, 102, (r_114 _ (List.mem_of_getElem? (i := 77) rfl)), Or.inl tw_t855⟩ : sm_F 114 237 (.invokevirtual 106) 3),
  List.forall_mem_cons.mpr ⟨(⟨by decide, by decide, rfl, 41, (r_114 _ (List.mem_of_getElem? (i := 78) rfl)), Or.inl tw_t739⟩ : sm_F 114 242 (.getfield 267) 3),
  List.forall_mem_cons.mpr ⟨(⟨rfl, mf_106, tw_t857, tw_p21, rfl, by decide, 102, (r_114 _ (List.mem_of_getElem? (i := 79) rfl)), Or.inl tw_t855⟩ : sm_F 114 249 (.invokevirtual 106) 3),
  List.forall_mem_cons.mpr ⟨(⟨rfl, mf_106, tw_t857, tw_p21, rfl, by decide, 102, (r_114 _ (List.mem_of_getElem? (i := 80) rfl)), Or.inl tw_t855⟩ : sm_F 114 264 (.invokevirtual 106) 3),
  List.forall_mem_cons.mpr ⟨(⟨rfl, mf_106, tw_t857, tw_p21, rfl, by decide, 102, (r_114 _ (List.mem_of_getElem? (i := 81) rfl)), Or.inl tw_t855⟩ : sm_F 114 270 (.invokevirtual 106) 3),
  fun _ h => absurd h List.not_mem_nil⟩⟩⟩⟩⟩⟩⟩⟩⟩⟩⟩⟩⟩⟩⟩⟩⟩⟩⟩⟩⟩⟩⟩⟩⟩
theorem f_114 : ∀ q ∈ cd_114, sm_F 114 q.1 q.2.2.2 q.2.1 := List.forall_mem_append.mpr ⟨fs_114, fl_114⟩
theorem r_115 : ∀ q ∈ cd_115, decode (mB 115) q.1 = .ok (q.2.2.1, q.2.1) := sm_all (by decide +kernel)
theorem fs_115 : ∀ q ∈ sp_115, sm_F 115 q.1 q.2.2.2 q.2.1 := sm_rsl (fun q h => r_115 q (List.mem_append_left _ h)) (by decide +kernel)
theorem fl_115 : ∀ q ∈ lk_115, sm_F 115 q.1 q.2.2.2 q.2.1 := List.forall_mem_cons.mpr ⟨(⟨rfl, mf_112, tw_t882, tw_p27, rfl, by decide, 129, (r_115 _ (List.mem_of_getElem? (i := 27) rfl)), Or.inl tw_t880⟩ : sm_F 115 1 (.invokevirtual 112) 3),
  List.forall_mem_cons.mpr ⟨(⟨by decide, by decide, rfl, 73, (r_115 _ (List.mem_of_getElem? (i := 28) rfl)), Or.inl tw_t749⟩ : sm_F 115 10 (.getfield 277) 3),
  List.forall_mem_cons.mpr ⟨(⟨rfl, mf_113, tw_t886, tw_p28, rfl, by decide, 151, (r_115 _ (List.mem_of_getElem? (i := 29) rfl)), Or.inl tw_t884⟩ : sm_F 115 18 (.invokevirtual 113) 3),
  List.forall_mem_cons.mpr ⟨(Or.inr ⟨187, (r_115 _ (List.mem_of_getElem? (i := 30) rfl)), rfl, tw_t907⟩ : sm_F 115 23 (.ldc2_w 474148708419) 3),
  List.forall_mem_cons.mpr ⟨(⟨rfl, mf_105, tw_t852, tw_p20, rfl, by decide, 112, (r_115 _ (List.mem_of_getElem? (i := 31) rfl)), Or.inl tw_t850⟩ : sm_F 115 26 (.invokevirtual 105) 3),
  List.forall_mem_cons.mpr ⟨(⟨rfl, mf_106, tw_t857, tw_p21, rfl, by decide, 102, (r_115 _ (List.mem_of_getElem? (i := 32) rfl)), Or.inl tw_t855⟩ : sm_F 115 34 (.invokevirtual 106) 3),
  List.forall_mem_cons.mpr ⟨(⟨rfl, mf_106, tw_t857, tw_p21, rfl, by decide, 102, (r_115 _ (List.mem_of_getElem? (i := 33) rfl)), Or.inl tw_t855⟩ : sm_F 115 40 (.invokevirtual 106) 3),
  List.forall_mem_cons.mpr ⟨(⟨by decide, by decide, rfl, 73, (r_115 _ (List.mem_of_getElem? (i := 34) rfl)), Or.inl tw_t749⟩ : sm_F 115 45 (.getfield 277) 3),
  List.forall_mem_cons.mpr ⟨(⟨by decide, by decide, rfl, 73, (r_115 _ (List.mem_of_getElem? (i := 35) rfl)), Or.inl ⟨rfl, Or.inl tw_t749⟩⟩ : sm_F 115 50 (.putfield 277) 3),
  List.forall_mem_cons.mpr ⟨(⟨rfl, mf_108, tw_t866, tw_p23, rfl, by decide, 179, (r_115 _ (List.mem_of_getElem? (i := 36) rfl)), Or.inl tw_t864⟩ : sm_F 115 57 (.invokevirtual 108) 3),
  List.forall_mem_cons.mpr ⟨(⟨rfl, mf_108, tw_t866, tw_p23, rfl, by decide, 179, (r_115 _ (List.mem_of_getElem? (i := 37) rfl)), Or.inl tw_t864⟩ : sm_F 115 63 (.invokevirtual 108) 3),
  List.forall_mem_cons.mpr ⟨(⟨rfl, mf_107, tw_t862, tw_p22, rfl, by decide, 189, (r_115 _ (List.mem_of_getElem? (i := 38) rfl)), Or.inl tw_t860⟩ : sm_F 115 68 (.invokevirtual 107) 3),
  fun _ h => absurd h List.not_mem_nil⟩⟩⟩⟩⟩⟩⟩⟩⟩⟩⟩⟩
theorem f_115 : ∀ q ∈ cd_115, sm_F 115 q.1 q.2.2.2 q.2.1 := List.forall_mem_append.mpr ⟨fs_115, fl_115⟩
theorem r_116 : ∀ q ∈ cd_116, decode (mB 116) q.1 = .ok (q.2.2.1, q.2.1) := sm_all (by decide +kernel)
theorem fs_116 : ∀ q ∈ sp_116, sm_F 116 q.1 q.2.2.2 q.2.1 := sm_rsl (fun q h => r_116 q (List.mem_append_left _ h)) (by decide +kernel)
theorem fl_116 : ∀ q ∈ lk_116, sm_F 116 q.1 q.2.2.2 q.2.1 := List.forall_mem_cons.mpr ⟨(⟨rfl, mf_112, tw_t882, tw_p27, rfl, by decide, 129, (r_116 _ (List.mem_of_getElem? (i := 20) rfl)), Or.inl tw_t880⟩ : sm_F 116 1 (.invokevirtual 112) 3),
  List.forall_mem_cons.mpr ⟨(Or.inr ⟨143, (r_116 _ (List.mem_of_getElem? (i := 21) rfl)), rfl, tw_t914⟩ : sm_F 116 7 (.ldc2_w 4294967296) 3),
  List.forall_mem_cons.mpr ⟨(⟨rfl, mf_112, tw_t882, tw_p27, rfl, by decide, 129, (r_116 _ (List.mem_of_getElem? (i := 22) rfl)), Or.inl tw_t880⟩ : sm_F 116 12 (.invokevirtual 112) 3),
  List.forall_mem_cons.mpr ⟨(Or.inr ⟨145, (r_116 _ (List.mem_of_getElem? (i := 23) rfl)), rfl, tw_t915⟩ : sm_F 116 16 (.ldc2_w 4294967295) 3),
  List.forall_mem_cons.mpr ⟨(Or.inr ⟨147, (r_116 _ (List.mem_of_getElem? (i := 24) rfl)), rfl, tw_t916⟩ : sm_F 116 23 (.ldc2_w 9223372036854775808) 3),
  List.forall_mem_cons.mpr ⟨(Or.inr ⟨149, (r_116 _ (List.mem_of_getElem? (i := 25) rfl)), rfl, tw_t917⟩ : sm_F 116 31 (.ldc2_w 1282371175) 3),
  List.forall_mem_cons.mpr ⟨(⟨rfl, mf_117, tw_t920, tw_p32, rfl, by decide, 140, (r_116 _ (List.mem_of_getElem? (i := 26) rfl)), Or.inl tw_t918⟩ : sm_F 116 34 (.invokevirtual 117) 3),
  List.forall_mem_cons.mpr ⟨(⟨rfl, mf_118, tw_t926, tw_p33, rfl, by decide, 126, (r_116 _ (List.mem_of_getElem? (i := 27) rfl)), Or.inl tw_t924⟩ : sm_F 116 40 (.invokevirtual 118) 3),
  List.forall_mem_cons.mpr ⟨(⟨rfl, mf_106, tw_t857, tw_p21, rfl, by decide, 102, (r_116 _ (List.mem_of_getElem? (i := 28) rfl)), Or.inl tw_t855⟩ : sm_F 116 46 (.invokevirtual 106) 3),
  fun _ h => absurd h List.not_mem_nil⟩⟩⟩⟩⟩⟩⟩⟩⟩
theorem f_116 : ∀ q ∈ cd_116, sm_F 116 q.1 q.2.2.2 q.2.1 := List.forall_mem_append.mpr ⟨fs_116, fl_116⟩
theorem r_117 : ∀ q ∈ cd_117, decode (mB 117) q.1 = .ok (q.2.2.1, q.2.1) := sm_all (by decide +kernel)
theorem fs_117 : ∀ q ∈ sp_117, sm_F 117 q.1 q.2.2.2 q.2.1 := sm_rsl (fun q h => r_117 q (List.mem_append_left _ h)) (by decide +kernel)
theorem fl_117 : ∀ q ∈ lk_117, sm_F 117 q.1 q.2.2.2 q.2.1 := List.forall_mem_cons.mpr ⟨(⟨rfl, mf_105, tw_t852, tw_p20, rfl, by decide, 112, (r_117 _ (List.mem_of_getElem? (i := 5) rfl)), Or.inl tw_t850⟩ : sm_F 117 2 (.invokevirtual 105) 3),
  List.forall_mem_cons.mpr ⟨(Or.inr ⟨116, (r_117 _ (List.mem_of_getElem? (i := 6) rfl)), rfl, tw_t922⟩ : sm_F 117 6 (.ldc2_w 3336403499907170636) 3),
  List.forall_mem_cons.mpr ⟨(⟨rfl, mf_105, tw_t852, tw_p20, rfl, by decide, 112, (r_117 _ (List.mem_of_getElem? (i := 7) rfl)), Or.inl tw_t850⟩ : sm_F 117 9 (.invokevirtual 105) 3),
  List.forall_mem_cons.mpr ⟨(Or.inr ⟨118, (r_117 _ (List.mem_of_getElem? (i := 8) rfl)), rfl, tw_t923⟩ : sm_F 117 13 (.ldc2_w 21829) 3),
  List.forall_mem_cons.mpr ⟨(⟨rfl, mf_105, tw_t852, tw_p20, rfl, by decide, 112, (r_117 _ (List.mem_of_getElem? (i := 9) rfl)), Or.inl tw_t850⟩ : sm_F 117 16 (.invokevirtual 105) 3),
  fun _ h => absurd h List.not_mem_nil⟩⟩⟩⟩⟩
theorem f_117 : ∀ q ∈ cd_117, sm_F 117 q.1 q.2.2.2 q.2.1 := List.forall_mem_append.mpr ⟨fs_117, fl_117⟩
theorem r_118 : ∀ q ∈ cd_118, decode (mB 118) q.1 = .ok (q.2.2.1, q.2.1) := sm_all (by decide +kernel)
theorem fs_118 : ∀ q ∈ sp_118, sm_F 118 q.1 q.2.2.2 q.2.1 := sm_rsl (fun q h => r_118 q (List.mem_append_left _ h)) (by decide +kernel)
theorem fl_118 : ∀ q ∈ lk_118, sm_F 118 q.1 q.2.2.2 q.2.1 := List.forall_mem_cons.mpr ⟨(⟨rfl, mf_106, tw_t857, tw_p21, rfl, by decide, 102, (r_118 _ (List.mem_of_getElem? (i := 42) rfl)), Or.inl tw_t855⟩ : sm_F 118 25 (.invokevirtual 106) 3),
  List.forall_mem_cons.mpr ⟨(Or.inr ⟨106, (r_118 _ (List.mem_of_getElem? (i := 43) rfl)), rfl, tw_t928⟩ : sm_F 118 32 (.ldc2_w 9) 3),
  List.forall_mem_cons.mpr ⟨(Or.inr ⟨108, (r_118 _ (List.mem_of_getElem? (i := 44) rfl)), rfl, tw_t929⟩ : sm_F 118 41 (.ldc2_w 10) 3),
  List.forall_mem_cons.mpr ⟨(Or.inr ⟨110, (r_118 _ (List.mem_of_getElem? (i := 45) rfl)), rfl, tw_t930⟩ : sm_F 118 58 (.ldc2_w 48) 3),
  List.forall_mem_cons.mpr ⟨(Or.inr ⟨108, (r_118 _ (List.mem_of_getElem? (i := 46) rfl)), rfl, tw_t929⟩ : sm_F 118 65 (.ldc2_w 10) 3),
  List.forall_mem_cons.mpr ⟨(⟨rfl, mf_106, tw_t857, tw_p21, rfl, by decide, 102, (r_118 _ (List.mem_of_getElem? (i := 47) rfl)), Or.inl tw_t855⟩ : sm_F 118 71 (.invokevirtual 106) 3),
  List.forall_mem_cons.mpr ⟨(Or.inr ⟨108, (r_118 _ (List.mem_of_getElem? (i := 48) rfl)), rfl, tw_t929⟩ : sm_F 118 76 (.ldc2_w 10) 3),
  fun _ h => absurd h List.not_mem_nil⟩⟩⟩⟩⟩⟩⟩
theorem f_118 : ∀ q ∈ cd_118, sm_F 118 q.1 q.2.2.2 q.2.1 := List.forall_mem_append.mpr ⟨fs_118, fl_118⟩
theorem r_119 : ∀ q ∈ cd_119, decode (mB 119) q.1 = .ok (q.2.2.1, q.2.1) := sm_all (by decide +kernel)
theorem fs_119 : ∀ q ∈ sp_119, sm_F 119 q.1 q.2.2.2 q.2.1 := sm_rsl (fun q h => r_119 q (List.mem_append_left _ h)) (by decide +kernel)
theorem fl_119 : ∀ q ∈ lk_119, sm_F 119 q.1 q.2.2.2 q.2.1 := List.forall_mem_cons.mpr ⟨(Or.inr ⟨120, (r_119 _ (List.mem_of_getElem? (i := 60) rfl)), rfl, tw_t935⟩ : sm_F 119 20 (.ldc2_w 16777216) 3),
  List.forall_mem_cons.mpr ⟨(Or.inr ⟨122, (r_119 _ (List.mem_of_getElem? (i := 61) rfl)), rfl, tw_t936⟩ : sm_F 119 29 (.ldc2_w 2) 3),
  List.forall_mem_cons.mpr ⟨(Or.inr ⟨122, (r_119 _ (List.mem_of_getElem? (i := 62) rfl)), rfl, tw_t936⟩ : sm_F 119 50 (.ldc2_w 2) 3),
  List.forall_mem_cons.mpr ⟨(Or.inr ⟨122, (r_119 _ (List.mem_of_getElem? (i := 63) rfl)), rfl, tw_t936⟩ : sm_F 119 62 (.ldc2_w 2) 3),
  List.forall_mem_cons.mpr ⟨(Or.inr ⟨122, (r_119 _ (List.mem_of_getElem? (i := 64) rfl)), rfl, tw_t936⟩ : sm_F 119 76 (.ldc2_w 2) 3),
  fun _ h => absurd h List.not_mem_nil⟩⟩⟩⟩⟩
theorem f_119 : ∀ q ∈ cd_119, sm_F 119 q.1 q.2.2.2 q.2.1 := List.forall_mem_append.mpr ⟨fs_119, fl_119⟩
theorem r_120 : ∀ q ∈ cd_120, decode (mB 120) q.1 = .ok (q.2.2.1, q.2.1) := sm_all (by decide +kernel)
theorem fs_120 : ∀ q ∈ sp_120, sm_F 120 q.1 q.2.2.2 q.2.1 := sm_rsl (fun q h => r_120 q (List.mem_append_left _ h)) (by decide +kernel)
theorem fl_120 : ∀ q ∈ lk_120, sm_F 120 q.1 q.2.2.2 q.2.1 := List.forall_mem_cons.mpr ⟨(⟨rfl, mf_106, tw_t857, tw_p21, rfl, by decide, 102, (r_120 _ (List.mem_of_getElem? (i := 55) rfl)), Or.inl tw_t855⟩ : sm_F 120 22 (.invokevirtual 106) 3),
  List.forall_mem_cons.mpr ⟨(Or.inr ⟨124, (r_120 _ (List.mem_of_getElem? (i := 56) rfl)), rfl, tw_t941⟩ : sm_F 120 27 (.ldc2_w 8) 3),
  List.forall_mem_cons.mpr ⟨(⟨rfl, mf_118, tw_t926, tw_p33, rfl, by decide, 126, (r_120 _ (List.mem_of_getElem? (i := 57) rfl)), Or.inl tw_t924⟩ : sm_F 120 31 (.invokevirtual 118) 3),
  List.forall_mem_cons.mpr ⟨(⟨rfl, mf_106, tw_t857, tw_p21, rfl, by decide, 102, (r_120 _ (List.mem_of_getElem? (i := 58) rfl)), Or.inl tw_t855⟩ : sm_F 120 37 (.invokevirtual 106) 3),
  List.forall_mem_cons.mpr ⟨(Or.inr ⟨124, (r_120 _ (List.mem_of_getElem? (i := 59) rfl)), rfl, tw_t941⟩ : sm_F 120 41 (.ldc2_w 8) 3),
  List.forall_mem_cons.mpr ⟨(⟨rfl, mf_106, tw_t857, tw_p21, rfl, by decide, 102, (r_120 _ (List.mem_of_getElem? (i := 60) rfl)), Or.inl tw_t855⟩ : sm_F 120 60 (.invokevirtual 106) 3),
  List.forall_mem_cons.mpr ⟨(⟨rfl, mf_106, tw_t857, tw_p21, rfl, by decide, 102, (r_120 _ (List.mem_of_getElem? (i := 61) rfl)), Or.inl tw_t855⟩ : sm_F 120 83 (.invokevirtual 106) 3),
  List.forall_mem_cons.mpr ⟨(⟨rfl, mf_106, tw_t857, tw_p21, rfl, by decide, 102, (r_120 _ (List.mem_of_getElem? (i := 62) rfl)), Or.inl tw_t855⟩ : sm_F 120 103 (.invokevirtual 106) 3),
  fun _ h => absurd h List.not_mem_nil⟩⟩⟩⟩⟩⟩⟩⟩
theorem f_120 : ∀ q ∈ cd_120, sm_F 120 q.1 q.2.2.2 q.2.1 := List.forall_mem_append.mpr ⟨fs_120, fl_120⟩
theorem r_121 : ∀ q ∈ cd_121, decode (mB 121) q.1 = .ok (q.2.2.1, q.2.1) := sm_all (by decide +kernel)
theorem fs_121 : ∀ q ∈ sp_121, sm_F 121 q.1 q.2.2.2 q.2.1 := sm_rsl (fun q h => r_121 q (List.mem_append_left _ h)) (by decide +kernel)
theorem fl_121 : ∀ q ∈ lk_121, sm_F 121 q.1 q.2.2.2 q.2.1 := List.forall_mem_cons.mpr ⟨(⟨rfl, mf_112, tw_t882, tw_p27, rfl, by decide, 129, (r_121 _ (List.mem_of_getElem? (i := 24) rfl)), Or.inl tw_t880⟩ : sm_F 121 1 (.invokevirtual 112) 3),
  List.forall_mem_cons.mpr ⟨(⟨rfl, mf_113, tw_t886, tw_p28, rfl, by decide, 151, (r_121 _ (List.mem_of_getElem? (i := 25) rfl)), Or.inl tw_t884⟩ : sm_F 121 10 (.invokevirtual 113) 3),
  List.forall_mem_cons.mpr ⟨(⟨rfl, mf_106, tw_t857, tw_p21, rfl, by decide, 102, (r_121 _ (List.mem_of_getElem? (i := 26) rfl)), Or.inl tw_t855⟩ : sm_F 121 17 (.invokevirtual 106) 3),
  List.forall_mem_cons.mpr ⟨(⟨rfl, mf_112, tw_t882, tw_p27, rfl, by decide, 129, (r_121 _ (List.mem_of_getElem? (i := 27) rfl)), Or.inl tw_t880⟩ : sm_F 121 31 (.invokevirtual 112) 3),
  List.forall_mem_cons.mpr ⟨(Or.inr (Or.inr (Or.inr ⟨154, (r_121 _ (List.mem_of_getElem? (i := 28) rfl)), rfl, tw_t946⟩)) : sm_F 121 34 (.iconst 65535) 2),
  List.forall_mem_cons.mpr ⟨(⟨rfl, mf_122, tw_t949, tw_p37, rfl, by decide, 155, (r_121 _ (List.mem_of_getElem? (i := 29) rfl)), Or.inl tw_t947⟩ : sm_F 121 39 (.invokevirtual 122) 3),
  List.forall_mem_cons.mpr ⟨(⟨rfl, mf_106, tw_t857, tw_p21, rfl, by decide, 102, (r_121 _ (List.mem_of_getElem? (i := 30) rfl)), Or.inl tw_t855⟩ : sm_F 121 51 (.invokevirtual 106) 3),
  fun _ h => absurd h List.not_mem_nil⟩⟩⟩⟩⟩⟩⟩
theorem f_121 : ∀ q ∈ cd_121, sm_F 121 q.1 q.2.2.2 q.2.1 := List.forall_mem_append.mpr ⟨fs_121, fl_121⟩
theorem r_122 : ∀ q ∈ cd_122, decode (mB 122) q.1 = .ok (q.2.2.1, q.2.1) := sm_all (by decide +kernel)
theorem fs_122 : ∀ q ∈ sp_122, sm_F 122 q.1 q.2.2.2 q.2.1 := sm_rsl (fun q h => r_122 q (List.mem_append_left _ h)) (by decide +kernel)
theorem fl_122 : ∀ q ∈ lk_122, sm_F 122 q.1 q.2.2.2 q.2.1 := List.forall_mem_cons.mpr ⟨(⟨rfl, mf_106, tw_t857, tw_p21, rfl, by decide, 102, (r_122 _ (List.mem_of_getElem? (i := 74) rfl)), Or.inl tw_t855⟩ : sm_F 122 21 (.invokevirtual 106) 3),
  List.forall_mem_cons.mpr ⟨(⟨rfl, mf_106, tw_t857, tw_p21, rfl, by decide, 102, (r_122 _ (List.mem_of_getElem? (i := 75) rfl)), Or.inl tw_t855⟩ : sm_F 122 49 (.invokevirtual 106) 3),
  List.forall_mem_cons.mpr ⟨(⟨rfl, mf_106, tw_t857, tw_p21, rfl, by decide, 102, (r_122 _ (List.mem_of_getElem? (i := 76) rfl)), Or.inl tw_t855⟩ : sm_F 122 69 (.invokevirtual 106) 3),
  List.forall_mem_cons.mpr ⟨(⟨rfl, mf_106, tw_t857, tw_p21, rfl, by decide, 102, (r_122 _ (List.mem_of_getElem? (i := 77) rfl)), Or.inl tw_t855⟩ : sm_F 122 74 (.invokevirtual 106) 3),
  List.forall_mem_cons.mpr ⟨(⟨rfl, mf_106, tw_t857, tw_p21, rfl, by decide, 102, (r_122 _ (List.mem_of_getElem? (i := 78) rfl)), Or.inl tw_t855⟩ : sm_F 122 94 (.invokevirtual 106) 3),
  List.forall_mem_cons.mpr ⟨(⟨rfl, mf_106, tw_t857, tw_p21, rfl, by decide, 102, (r_122 _ (List.mem_of_getElem? (i := 79) rfl)), Or.inl tw_t855⟩ : sm_F 122 103 (.invokevirtual 106) 3),
  List.forall_mem_cons.mpr ⟨(⟨rfl, mf_106, tw_t857, tw_p21, rfl, by decide, 102, (r_122 _ (List.mem_of_getElem? (i := 80) rfl)), Or.inl tw_t855⟩ : sm_F 122 109 (.invokevirtual 106) 3),
  List.forall_mem_cons.mpr ⟨(⟨rfl, mf_106, tw_t857, tw_p21, rfl, by decide, 102, (r_122 _ (List.mem_of_getElem? (i := 81) rfl)), Or.inl tw_t855⟩ : sm_F 122 151 (.invokevirtual 106) 3),
  fun _ h => absurd h List.not_mem_nil⟩⟩⟩⟩⟩⟩⟩⟩
theorem f_122 : ∀ q ∈ cd_122, sm_F 122 q.1 q.2.2.2 q.2.1 := List.forall_mem_append.mpr ⟨fs_122, fl_122⟩
theorem r_123 : ∀ q ∈ cd_123, decode (mB 123) q.1 = .ok (q.2.2.1, q.2.1) := sm_all (by decide +kernel)
theorem fs_123 : ∀ q ∈ sp_123, sm_F 123 q.1 q.2.2.2 q.2.1 := sm_rsl (fun q h => r_123 q (List.mem_append_left _ h)) (by decide +kernel)
theorem fl_123 : ∀ q ∈ lk_123, sm_F 123 q.1 q.2.2.2 q.2.1 := List.forall_mem_cons.mpr ⟨(⟨rfl, mf_112, tw_t882, tw_p27, rfl, by decide, 129, (r_123 _ (List.mem_of_getElem? (i := 35) rfl)), Or.inl tw_t880⟩ : sm_F 123 1 (.invokevirtual 112) 3),
  List.forall_mem_cons.mpr ⟨(Or.inr ⟨133, (r_123 _ (List.mem_of_getElem? (i := 36) rfl)), rfl, tw_t955⟩ : sm_F 123 12 (.ldc2_w 2910021850055122944) 3),
  List.forall_mem_cons.mpr ⟨(⟨rfl, mf_105, tw_t852, tw_p20, rfl, by decide, 112, (r_123 _ (List.mem_of_getElem? (i := 37) rfl)), Or.inl tw_t850⟩ : sm_F 123 15 (.invokevirtual 105) 3),
  List.forall_mem_cons.mpr ⟨(Or.inr ⟨135, (r_123 _ (List.mem_of_getElem? (i := 38) rfl)), rfl, tw_t956⟩ : sm_F 123 25 (.ldc2_w 2914788211709716768) 3),
  List.forall_mem_cons.mpr ⟨(⟨rfl, mf_105, tw_t852, tw_p20, rfl, by decide, 112, (r_123 _ (List.mem_of_getElem? (i := 39) rfl)), Or.inl tw_t850⟩ : sm_F 123 28 (.invokevirtual 105) 3),
  List.forall_mem_cons.mpr ⟨(Or.inr (Or.inr (Or.inr ⟨137, (r_123 _ (List.mem_of_getElem? (i := 40) rfl)), rfl, tw_t957⟩)) : sm_F 123 38 (.iconst (-2147483648)) 2),
  List.forall_mem_cons.mpr ⟨(Or.inr ⟨138, (r_123 _ (List.mem_of_getElem? (i := 41) rfl)), rfl, tw_t958⟩ : sm_F 123 44 (.ldc2_w 20669119496414578) 3),
  List.forall_mem_cons.mpr ⟨(⟨rfl, mf_117, tw_t920, tw_p32, rfl, by decide, 140, (r_123 _ (List.mem_of_getElem? (i := 42) rfl)), Or.inl tw_t918⟩ : sm_F 123 47 (.invokevirtual 117) 3),
  List.forall_mem_cons.mpr ⟨(⟨rfl, mf_118, tw_t926, tw_p33, rfl, by decide, 126, (r_123 _ (List.mem_of_getElem? (i := 43) rfl)), Or.inl tw_t924⟩ : sm_F 123 80 (.invokevirtual 118) 3),
  fun _ h => absurd h List.not_mem_nil⟩⟩⟩⟩⟩⟩⟩⟩⟩
theorem f_123 : ∀ q ∈ cd_123, sm_F 123 q.1 q.2.2.2 q.2.1 := List.forall_mem_append.mpr ⟨fs_123, fl_123⟩
theorem r_124 : ∀ q ∈ cd_124, decode (mB 124) q.1 = .ok (q.2.2.1, q.2.1) := sm_all (by decide +kernel)
theorem fs_124 : ∀ q ∈ sp_124, sm_F 124 q.1 q.2.2.2 q.2.1 := sm_rsl (fun q h => r_124 q (List.mem_append_left _ h)) (by decide +kernel)
theorem fl_124 : ∀ q ∈ lk_124, sm_F 124 q.1 q.2.2.2 q.2.1 := List.forall_mem_cons.mpr ⟨(Or.inr ⟨230, (r_124 _ (List.mem_of_getElem? (i := 6) rfl)), rfl, tw_t965⟩ : sm_F 124 1 (.ldc2_w 107148485161588) 3),
  List.forall_mem_cons.mpr ⟨(⟨rfl, mf_105, tw_t852, tw_p20, rfl, by decide, 112, (r_124 _ (List.mem_of_getElem? (i := 7) rfl)), Or.inl tw_t850⟩ : sm_F 124 4 (.invokevirtual 105) 3),
  List.forall_mem_cons.mpr ⟨(⟨rfl, mf_105, tw_t852, tw_p20, rfl, by decide, 112, (r_124 _ (List.mem_of_getElem? (i := 8) rfl)), Or.inl tw_t850⟩ : sm_F 124 9 (.invokevirtual 105) 3),
  List.forall_mem_cons.mpr ⟨(⟨rfl, mf_106, tw_t857, tw_p21, rfl, by decide, 102, (r_124 _ (List.mem_of_getElem? (i := 9) rfl)), Or.inl tw_t855⟩ : sm_F 124 15 (.invokevirtual 106) 3),
  fun _ h => absurd h List.not_mem_nil⟩⟩⟩⟩
theorem f_124 : ∀ q ∈ cd_124, sm_F 124 q.1 q.2.2.2 q.2.1 := List.forall_mem_append.mpr ⟨fs_124, fl_124⟩
theorem r_125 : ∀ q ∈ cd_125, decode (mB 125) q.1 = .ok (q.2.2.1, q.2.1) := sm_all (by decide +kernel)
theorem fs_125 : ∀ q ∈ sp_125, sm_F 125 q.1 q.2.2.2 q.2.1 := sm_rsl (fun q h => r_125 q (List.mem_append_left _ h)) (by decide +kernel)
theorem fl_125 : ∀ q ∈ lk_125, sm_F 125 q.1 q.2.2.2 q.2.1 := List.forall_mem_cons.mpr ⟨(⟨by decide, by decide, rfl, 67, (r_125 _ (List.mem_of_getElem? (i := 23) rfl)), Or.inl tw_t747⟩ : sm_F 125 4 (.getfield 275) 3),
  List.forall_mem_cons.mpr ⟨(⟨by decide, by decide, rfl, 64, (r_125 _ (List.mem_of_getElem? (i := 24) rfl)), Or.inl tw_t746⟩ : sm_F 125 21 (.getfield 274) 3),
  List.forall_mem_cons.mpr ⟨(⟨rfl, mf_106, tw_t857, tw_p21, rfl, by decide, 102, (r_125 _ (List.mem_of_getElem? (i := 25) rfl)), Or.inl tw_t855⟩ : sm_F 125 37 (.invokevirtual 106) 3),
  fun _ h => absurd h List.not_mem_nil⟩⟩⟩
theorem f_125 : ∀ q ∈ cd_125, sm_F 125 q.1 q.2.2.2 q.2.1 := List.forall_mem_append.mpr ⟨fs_125, fl_125⟩
theorem r_126 : ∀ q ∈ cd_126, decode (mB 126) q.1 = .ok (q.2.2.1, q.2.1) := sm_all (by decide +kernel)
theorem fs_126 : ∀ q ∈ sp_126, sm_F 126 q.1 q.2.2.2 q.2.1 := sm_rsl (fun q h => r_126 q (List.mem_append_left _ h)) (by decide +kernel)
theorem fl_126 : ∀ q ∈ lk_126, sm_F 126 q.1 q.2.2.2 q.2.1 := List.forall_mem_cons.mpr ⟨(⟨by decide, by decide, rfl, 19, (r_126 _ (List.mem_of_getElem? (i := 92) rfl)), Or.inl tw_t732⟩ : sm_F 126 2 (.getfield 260) 3),
  List.forall_mem_cons.mpr ⟨(⟨by decide, by decide, rfl, 13, (r_126 _ (List.mem_of_getElem? (i := 93) rfl)), Or.inl tw_t730⟩ : sm_F 126 6 (.getfield 258) 3),
  List.forall_mem_cons.mpr ⟨(⟨by decide, by decide, rfl, 19, (r_126 _ (List.mem_of_getElem? (i := 94) rfl)), Or.inl tw_t732⟩ : sm_F 126 13 (.getfield 260) 3),
  List.forall_mem_cons.mpr ⟨(⟨by decide, by decide, rfl, 13, (r_126 _ (List.mem_of_getElem? (i := 95) rfl)), Or.inl tw_t730⟩ : sm_F 126 20 (.getfield 258) 3),
  List.forall_mem_cons.mpr ⟨(⟨by decide, by decide, rfl, 22, (r_126 _ (List.mem_of_getElem? (i := 96) rfl)), Or.inl ⟨rfl, Or.inl tw_t733⟩⟩ : sm_F 126 23 (.putfield 261) 3),
  List.forall_mem_cons.mpr ⟨(⟨by decide, by decide, rfl, 67, (r_126 _ (List.mem_of_getElem? (i := 97) rfl)), Or.inl tw_t747⟩ : sm_F 126 27 (.getfield 275) 3),
  List.forall_mem_cons.mpr ⟨(⟨by decide, by decide, rfl, 16, (r_126 _ (List.mem_of_getElem? (i := 98) rfl)), Or.inl tw_t731⟩ : sm_F 126 49 (.getfield 259) 3),
  List.forall_mem_cons.mpr ⟨(⟨rfl, mf_127, tw_t982, tw_p42, rfl, by decide, 232, (r_126 _ (List.mem_of_getElem? (i := 99) rfl)), Or.inl tw_t980⟩ : sm_F 126 58 (.invokevirtual 127) 3),
  List.forall_mem_cons.mpr ⟨(⟨by decide, by decide, rfl, 51, (r_126 _ (List.mem_of_getElem? (i := 100) rfl)), Or.inl tw_t742⟩ : sm_F 126 82 (.getfield 270) 3),
  List.forall_mem_cons.mpr ⟨(⟨by decide, by decide, rfl, 16, (r_126 _ (List.mem_of_getElem? (i := 101) rfl)), Or.inl tw_t731⟩ : sm_F 126 86 (.getfield 259) 3),
  List.forall_mem_cons.mpr ⟨(⟨by decide, by decide, rfl, 51, (r_126 _ (List.mem_of_getElem? (i := 102) rfl)), Or.inl tw_t742⟩ : sm_F 126 110 (.getfield 270) 3),
  List.forall_mem_cons.mpr ⟨(⟨by decide, by decide, rfl, 16, (r_126 _ (List.mem_of_getElem? (i := 103) rfl)), Or.inl tw_t731⟩ : sm_F 126 114 (.getfield 259) 3),
  List.forall_mem_cons.mpr ⟨(⟨by decide, by decide, rfl, 64, (r_126 _ (List.mem_of_getElem? (i := 104) rfl)), Or.inl tw_t746⟩ : sm_F 126 127 (.getfield 274) 3),
  List.forall_mem_cons.mpr ⟨(⟨by decide, by decide, rfl, 57, (r_126 _ (List.mem_of_getElem? (i := 105) rfl)), Or.inl tw_t744⟩ : sm_F 126 152 (.getfield 272) 3),
  List.forall_mem_cons.mpr ⟨(⟨by decide, by decide, rfl, 16, (r_126 _ (List.mem_of_getElem? (i := 106) rfl)), Or.inl tw_t731⟩ : sm_F 126 156 (.getfield 259) 3),
  List.forall_mem_cons.mpr ⟨(⟨by decide, by decide, rfl, 60, (r_126 _ (List.mem_of_getElem? (i := 107) rfl)), Or.inl tw_t745⟩ : sm_F 126 162 (.getfield 273) 3),
  List.forall_mem_cons.mpr ⟨(⟨by decide, by decide, rfl, 16, (r_126 _ (List.mem_of_getElem? (i := 108) rfl)), Or.inl tw_t731⟩ : sm_F 126 166 (.getfield 259) 3),
  List.forall_mem_cons.mpr ⟨(⟨by decide, by decide, rfl, 16, (r_126 _ (List.mem_of_getElem? (i := 109) rfl)), Or.inl tw_t731⟩ : sm_F 126 173 (.getfield 259) 3),
  List.forall_mem_cons.mpr ⟨(⟨by decide, by decide, rfl, 16, (r_126 _ (List.mem_of_getElem? (i := 110) rfl)), Or.inl ⟨rfl, Or.inl tw_t731⟩⟩ : sm_F 126 178 (.putfield 259) 3),
  List.forall_mem_cons.mpr ⟨(⟨by decide, by decide, rfl, 16, (r_126 _ (List.mem_of_getElem? (i := 111) rfl)), Or.inl tw_t731⟩ : sm_F 126 182 (.getfield 259) 3),
  fun _ h => absurd h List.not_mem_nil⟩⟩⟩⟩⟩⟩⟩⟩⟩⟩⟩⟩⟩⟩⟩⟩⟩⟩⟩⟩
theorem f_126 : ∀ q ∈ cd_126, sm_F 126 q.1 q.2.2.2 q.2.1 := List.forall_mem_append.mpr ⟨fs_126, fl_126⟩
theorem r_127 : ∀ q ∈ cd_127, decode (mB 127) q.1 = .ok (q.2.2.1, q.2.1) := sm_all (by decide +kernel)
theorem fs_127 : ∀ q ∈ sp_127, sm_F 127 q.1 q.2.2.2 q.2.1 := sm_rsl (fun q h => r_127 q (List.mem_append_left _ h)) (by decide +kernel)
theorem fl_127 : ∀ q ∈ lk_127, sm_F 127 q.1 q.2.2.2 q.2.1 := List.forall_mem_cons.mpr ⟨(⟨by decide, by decide, rfl, 57, (r_127 _ (List.mem_of_getElem? (i := 27) rfl)), Or.inl tw_t744⟩ : sm_F 127 1 (.getfield 272) 3),
  List.forall_mem_cons.mpr ⟨(⟨rfl, mf_128, tw_t986, tw_p43, rfl, by decide, 236, (r_127 _ (List.mem_of_getElem? (i := 28) rfl)), Or.inl tw_t984⟩ : sm_F 127 22 (.invokevirtual 128) 3),
  List.forall_mem_cons.mpr ⟨(⟨by decide, by decide, rfl, 64, (r_127 _ (List.mem_of_getElem? (i := 29) rfl)), Or.inl tw_t746⟩ : sm_F 127 26 (.getfield 274) 3),
  fun _ h => absurd h List.not_mem_nil⟩⟩⟩
theorem f_127 : ∀ q ∈ cd_127, sm_F 127 q.1 q.2.2.2 q.2.1 := List.forall_mem_append.mpr ⟨fs_127, fl_127⟩
theorem r_128 : ∀ q ∈ cd_128, decode (mB 128) q.1 = .ok (q.2.2.1, q.2.1) := sm_all (by decide +kernel)
theorem fs_128 : ∀ q ∈ sp_128, sm_F 128 q.1 q.2.2.2 q.2.1 := sm_rsl (fun q h => r_128 q (List.mem_append_left _ h)) (by decide +kernel)
theorem fl_128 : ∀ q ∈ lk_128, sm_F 128 q.1 q.2.2.2 q.2.1 := List.forall_mem_cons.mpr ⟨(⟨by decide, by decide, rfl, 51, (r_128 _ (List.mem_of_getElem? (i := 18) rfl)), Or.inl tw_t742⟩ : sm_F 128 1 (.getfield 270) 3),
  fun _ h => absurd h List.not_mem_nil⟩
theorem f_128 : ∀ q ∈ cd_128, sm_F 128 q.1 q.2.2.2 q.2.1 := List.forall_mem_append.mpr ⟨fs_128, fl_128⟩
theorem r_129 : ∀ q ∈ cd_129, decode (mB 129) q.1 = .ok (q.2.2.1, q.2.1) := sm_all (by decide +kernel)
theorem fs_129 : ∀ q ∈ sp_129, sm_F 129 q.1 q.2.2.2 q.2.1 := sm_rsl (fun q h => r_129 q (List.mem_append_left _ h)) (by decide +kernel)
theorem fl_129 : ∀ q ∈ lk_129, sm_F 129 q.1 q.2.2.2 q.2.1 := List.forall_mem_cons.mpr ⟨(⟨rfl, mf_130, tw_t994, tw_p44, rfl, by decide, 269, (r_129 _ (List.mem_of_getElem? (i := 38) rfl)), Or.inl tw_t992⟩ : sm_F 129 1 (.invokevirtual 130) 3),
  List.forall_mem_cons.mpr ⟨(⟨by decide, by decide, rfl, 7, (r_129 _ (List.mem_of_getElem? (i := 39) rfl)), Or.inl tw_t729⟩ : sm_F 129 6 (.getfield 257) 3),
  List.forall_mem_cons.mpr ⟨(⟨by decide, by decide, rfl, 7, (r_129 _ (List.mem_of_getElem? (i := 40) rfl)), Or.inl ⟨rfl, Or.inl tw_t729⟩⟩ : sm_F 129 12 (.putfield 257) 3),
  List.forall_mem_cons.mpr ⟨(⟨by decide, by decide, rfl, 16, (r_129 _ (List.mem_of_getElem? (i := 41) rfl)), Or.inl tw_t731⟩ : sm_F 129 23 (.getfield 259) 3),
  List.forall_mem_cons.mpr ⟨(⟨rfl, mf_104, tw_t847, tw_p19, rfl, by decide, 240, (r_129 _ (List.mem_of_getElem? (i := 42) rfl)), Or.inl tw_t845⟩ : sm_F 129 35 (.invokevirtual 104) 3),
  List.forall_mem_cons.mpr ⟨(⟨by decide, by decide, rfl, 70, (r_129 _ (List.mem_of_getElem? (i := 43) rfl)), Or.inl ⟨rfl, Or.inl tw_t748⟩⟩ : sm_F 129 40 (.putfield 276) 3),
  List.forall_mem_cons.mpr ⟨(⟨by decide, by decide, rfl, 67, (r_129 _ (List.mem_of_getElem? (i := 44) rfl)), Or.inl tw_t747⟩ : sm_F 129 44 (.getfield 275) 3),
  List.forall_mem_cons.mpr ⟨(Or.inr ⟨273, (r_129 _ (List.mem_of_getElem? (i := 45) rfl)), rfl, tw_t996⟩ : sm_F 129 51 (.ldc2_w 8390902236154830880) 3),
  List.forall_mem_cons.mpr ⟨(⟨rfl, mf_105, tw_t852, tw_p20, rfl, by decide, 112, (r_129 _ (List.mem_of_getElem? (i := 46) rfl)), Or.inl tw_t850⟩ : sm_F 129 54 (.invokevirtual 105) 3),
  List.forall_mem_cons.mpr ⟨(Or.inr ⟨275, (r_129 _ (List.mem_of_getElem? (i := 47) rfl)), rfl, tw_t997⟩ : sm_F 129 58 (.ldc2_w 8224) 3),
  List.forall_mem_cons.mpr ⟨(⟨rfl, mf_105, tw_t852, tw_p20, rfl, by decide, 112, (r_129 _ (List.mem_of_getElem? (i := 48) rfl)), Or.inl tw_t850⟩ : sm_F 129 61 (.invokevirtual 105) 3),
  List.forall_mem_cons.mpr ⟨(⟨rfl, mf_125, tw_t972, tw_p40, rfl, by decide, 258, (r_129 _ (List.mem_of_getElem? (i := 49) rfl)), Or.inl tw_t970⟩ : sm_F 129 66 (.invokevirtual 125) 3),
  List.forall_mem_cons.mpr ⟨(Or.inr ⟨277, (r_129 _ (List.mem_of_getElem? (i := 50) rfl)), rfl, tw_t998⟩ : sm_F 129 70 (.ldc2_w 64914674688032) 3),
  List.forall_mem_cons.mpr ⟨(⟨rfl, mf_105, tw_t852, tw_p20, rfl, by decide, 112, (r_129 _ (List.mem_of_getElem? (i := 51) rfl)), Or.inl tw_t850⟩ : sm_F 129 73 (.invokevirtual 105) 3),
  List.forall_mem_cons.mpr ⟨(Or.inr ⟨279, (r_129 _ (List.mem_of_getElem? (i := 52) rfl)), rfl, tw_t999⟩ : sm_F 129 77 (.ldc2_w 112568566556706) 3),
  List.forall_mem_cons.mpr ⟨(⟨rfl, mf_105, tw_t852, tw_p20, rfl, by decide, 112, (r_129 _ (List.mem_of_getElem? (i := 53) rfl)), Or.inl tw_t850⟩ : sm_F 129 80 (.invokevirtual 105) 3),
  List.forall_mem_cons.mpr ⟨(⟨rfl, mf_131, tw_t1002, tw_p45, rfl, by decide, 281, (r_129 _ (List.mem_of_getElem? (i := 54) rfl)), Or.inl tw_t1000⟩ : sm_F 129 85 (.invokevirtual 131) 3),
  List.forall_mem_cons.mpr ⟨(Or.inr ⟨284, (r_129 _ (List.mem_of_getElem? (i := 55) rfl)), rfl, tw_t1004⟩ : sm_F 129 89 (.ldc2_w 37560479546656) 3),
  List.forall_mem_cons.mpr ⟨(⟨rfl, mf_105, tw_t852, tw_p20, rfl, by decide, 112, (r_129 _ (List.mem_of_getElem? (i := 56) rfl)), Or.inl tw_t850⟩ : sm_F 129 92 (.invokevirtual 105) 3),
  List.forall_mem_cons.mpr ⟨(Or.inr ⟨286, (r_129 _ (List.mem_of_getElem? (i := 57) rfl)), rfl, tw_t1005⟩ : sm_F 129 96 (.ldc2_w 7161132852793321472) 3),
  List.forall_mem_cons.mpr ⟨(⟨rfl, mf_105, tw_t852, tw_p20, rfl, by decide, 112, (r_129 _ (List.mem_of_getElem? (i := 58) rfl)), Or.inl tw_t850⟩ : sm_F 129 99 (.invokevirtual 105) 3),
  List.forall_mem_cons.mpr ⟨(⟨rfl, mf_131, tw_t1002, tw_p45, rfl, by decide, 281, (r_129 _ (List.mem_of_getElem? (i := 59) rfl)), Or.inl tw_t1000⟩ : sm_F 129 104 (.invokevirtual 131) 3),
  List.forall_mem_cons.mpr ⟨(Or.inr ⟨288, (r_129 _ (List.mem_of_getElem? (i := 60) rfl)), rfl, tw_t1006⟩ : sm_F 129 108 (.ldc2_w 9118426567740029) 3),
  List.forall_mem_cons.mpr ⟨(⟨rfl, mf_105, tw_t852, tw_p20, rfl, by decide, 112, (r_129 _ (List.mem_of_getElem? (i := 61) rfl)), Or.inl tw_t850⟩ : sm_F 129 111 (.invokevirtual 105) 3),
  List.forall_mem_cons.mpr ⟨(⟨rfl, mf_126, tw_t978, tw_p41, rfl, by decide, 265, (r_129 _ (List.mem_of_getElem? (i := 62) rfl)), Or.inl tw_t976⟩ : sm_F 129 116 (.invokevirtual 126) 3),
  fun _ h => absurd h List.not_mem_nil⟩⟩⟩⟩⟩⟩⟩⟩⟩⟩⟩⟩⟩⟩⟩⟩⟩⟩⟩⟩⟩⟩⟩⟩⟩
theorem f_129 : ∀ q ∈ cd_129, sm_F 129 q.1 q.2.2.2 q.2.1 := List.forall_mem_append.mpr ⟨fs_129, fl_129⟩
theorem r_130 : ∀ q ∈ cd_130, decode (mB 130) q.1 = .ok (q.2.2.1, q.2.1) := sm_all (by decide +kernel)
theorem fs_130 : ∀ q ∈ sp_130, sm_F 130 q.1 q.2.2.2 q.2.1 := sm_rsl (fun q h => r_130 q (List.mem_append_left _ h)) (by decide +kernel)
theorem fl_130 : ∀ q ∈ lk_130, sm_F 130 q.1 q.2.2.2 q.2.1 := List.forall_mem_cons.mpr ⟨(⟨by decide, by decide, rfl, 7, (r_130 _ (List.mem_of_getElem? (i := 35) rfl)), Or.inl tw_t729⟩ : sm_F 130 4 (.getfield 257) 3),
  List.forall_mem_cons.mpr ⟨(⟨by decide, by decide, rfl, 37, (r_130 _ (List.mem_of_getElem? (i := 36) rfl)), Or.inl tw_t738⟩ : sm_F 130 11 (.getfield 266) 3),
  List.forall_mem_cons.mpr ⟨(⟨by decide, by decide, rfl, 37, (r_130 _ (List.mem_of_getElem? (i := 37) rfl)), Or.inl tw_t738⟩ : sm_F 130 22 (.getfield 266) 3),
  List.forall_mem_cons.mpr ⟨(⟨by decide, by decide, rfl, 37, (r_130 _ (List.mem_of_getElem? (i := 38) rfl)), Or.inl tw_t738⟩ : sm_F 130 33 (.getfield 266) 3),
  List.forall_mem_cons.mpr ⟨(⟨by decide, by decide, rfl, 37, (r_130 _ (List.mem_of_getElem? (i := 39) rfl)), Or.inl tw_t738⟩ : sm_F 130 44 (.getfield 266) 3),
  List.forall_mem_cons.mpr ⟨(⟨by decide, by decide, rfl, 7, (r_130 _ (List.mem_of_getElem? (i := 40) rfl)), Or.inl tw_t729⟩ : sm_F 130 63 (.getfield 257) 3),
  fun _ h => absurd h List.not_mem_nil⟩⟩⟩⟩⟩⟩
theorem f_130 : ∀ q ∈ cd_130, sm_F 130 q.1 q.2.2.2 q.2.1 := List.forall_mem_append.mpr ⟨fs_130, fl_130⟩
theorem r_131 : ∀ q ∈ cd_131, decode (mB 131) q.1 = .ok (q.2.2.1, q.2.1) := sm_all (by decide +kernel)
theorem fs_131 : ∀ q ∈ sp_131, sm_F 131 q.1 q.2.2.2 q.2.1 := sm_rsl (fun q h => r_131 q (List.mem_append_left _ h)) (by decide +kernel)
theorem fl_131 : ∀ q ∈ lk_131, sm_F 131 q.1 q.2.2.2 q.2.1 := List.forall_mem_cons.mpr ⟨(⟨by decide, by decide, rfl, 37, (r_131 _ (List.mem_of_getElem? (i := 12) rfl)), Or.inl tw_t738⟩ : sm_F 131 9 (.getfield 266) 3),
  List.forall_mem_cons.mpr ⟨(⟨rfl, mf_106, tw_t857, tw_p21, rfl, by decide, 102, (r_131 _ (List.mem_of_getElem? (i := 13) rfl)), Or.inl tw_t855⟩ : sm_F 131 14 (.invokevirtual 106) 3),
  fun _ h => absurd h List.not_mem_nil⟩⟩
theorem f_131 : ∀ q ∈ cd_131, sm_F 131 q.1 q.2.2.2 q.2.1 := List.forall_mem_append.mpr ⟨fs_131, fl_131⟩
theorem r_132 : ∀ q ∈ cd_132, decode (mB 132) q.1 = .ok (q.2.2.1, q.2.1) := sm_all (by decide +kernel)
theorem fs_132 : ∀ q ∈ sp_132, sm_F 132 q.1 q.2.2.2 q.2.1 := sm_rsl (fun q h => r_132 q (List.mem_append_left _ h)) (by decide +kernel)
theorem fl_132 : ∀ q ∈ lk_132, sm_F 132 q.1 q.2.2.2 q.2.1 := List.forall_mem_cons.mpr ⟨(⟨by decide, by decide, rfl, 22, (r_132 _ (List.mem_of_getElem? (i := 6) rfl)), Or.inl tw_t733⟩ : sm_F 132 1 (.getfield 261) 3),
  List.forall_mem_cons.mpr ⟨(⟨by decide, by decide, rfl, 22, (r_132 _ (List.mem_of_getElem? (i := 7) rfl)), Or.inl tw_t733⟩ : sm_F 132 12 (.getfield 261) 3),
  fun _ h => absurd h List.not_mem_nil⟩⟩
theorem f_132 : ∀ q ∈ cd_132, sm_F 132 q.1 q.2.2.2 q.2.1 := List.forall_mem_append.mpr ⟨fs_132, fl_132⟩
theorem r_133 : ∀ q ∈ cd_133, decode (mB 133) q.1 = .ok (q.2.2.1, q.2.1) := sm_all (by decide +kernel)
theorem fs_133 : ∀ q ∈ sp_133, sm_F 133 q.1 q.2.2.2 q.2.1 := sm_rsl (fun q h => r_133 q (List.mem_append_left _ h)) (by decide +kernel)
theorem fl_133 : ∀ q ∈ lk_133, sm_F 133 q.1 q.2.2.2 q.2.1 := List.forall_mem_cons.mpr ⟨(⟨by decide, by decide, rfl, 16, (r_133 _ (List.mem_of_getElem? (i := 6) rfl)), Or.inl tw_t731⟩ : sm_F 133 1 (.getfield 259) 3),
  List.forall_mem_cons.mpr ⟨(⟨by decide, by decide, rfl, 16, (r_133 _ (List.mem_of_getElem? (i := 7) rfl)), Or.inl ⟨rfl, Or.inl tw_t731⟩⟩ : sm_F 133 7 (.putfield 259) 3),
  fun _ h => absurd h List.not_mem_nil⟩⟩
theorem f_133 : ∀ q ∈ cd_133, sm_F 133 q.1 q.2.2.2 q.2.1 := List.forall_mem_append.mpr ⟨fs_133, fl_133⟩
theorem r_134 : ∀ q ∈ cd_134, decode (mB 134) q.1 = .ok (q.2.2.1, q.2.1) := sm_all (by decide +kernel)
theorem fs_134 : ∀ q ∈ sp_134, sm_F 134 q.1 q.2.2.2 q.2.1 := sm_rsl (fun q h => r_134 q (List.mem_append_left _ h)) (by decide +kernel)
theorem fl_134 : ∀ q ∈ lk_134, sm_F 134 q.1 q.2.2.2 q.2.1 := List.forall_mem_cons.mpr ⟨(⟨by decide, by decide, rfl, 25, (r_134 _ (List.mem_of_getElem? (i := 61) rfl)), Or.inl ⟨rfl, Or.inl tw_t734⟩⟩ : sm_F 134 2 (.putfield 262) 3),
  List.forall_mem_cons.mpr ⟨(⟨by decide, by decide, rfl, 28, (r_134 _ (List.mem_of_getElem? (i := 62) rfl)), Or.inl ⟨rfl, Or.inl tw_t735⟩⟩ : sm_F 134 7 (.putfield 263) 3),
  List.forall_mem_cons.mpr ⟨(⟨by decide, by decide, rfl, 31, (r_134 _ (List.mem_of_getElem? (i := 63) rfl)), Or.inl ⟨rfl, Or.inl tw_t736⟩⟩ : sm_F 134 12 (.putfield 264) 3),
  List.forall_mem_cons.mpr ⟨(⟨by decide, by decide, rfl, 34, (r_134 _ (List.mem_of_getElem? (i := 64) rfl)), Or.inl ⟨rfl, Or.inl tw_t737⟩⟩ : sm_F 134 17 (.putfield 265) 3),
  List.forall_mem_cons.mpr ⟨(Or.inr ⟨311, (r_134 _ (List.mem_of_getElem? (i := 65) rfl)), rfl, tw_t1019⟩ : sm_F 134 21 (.ldc2_w 8103491322287169635) 3),
  List.forall_mem_cons.mpr ⟨(⟨rfl, mf_135, tw_t1022, tw_p46, rfl, by decide, 313, (r_134 _ (List.mem_of_getElem? (i := 66) rfl)), Or.inl tw_t1020⟩ : sm_F 134 24 (.invokevirtual 135) 3),
  List.forall_mem_cons.mpr ⟨(Or.inr ⟨316, (r_134 _ (List.mem_of_getElem? (i := 67) rfl)), rfl, tw_t1032⟩ : sm_F 134 28 (.ldc2_w 465491424032) 3),
  List.forall_mem_cons.mpr ⟨(⟨rfl, mf_135, tw_t1022, tw_p46, rfl, by decide, 313, (r_134 _ (List.mem_of_getElem? (i := 68) rfl)), Or.inl tw_t1020⟩ : sm_F 134 31 (.invokevirtual 135) 3),
  List.forall_mem_cons.mpr ⟨(Or.inr ⟨318, (r_134 _ (List.mem_of_getElem? (i := 69) rfl)), rfl, tw_t1033⟩ : sm_F 134 35 (.ldc2_w 6080266760336200805) 3),
  List.forall_mem_cons.mpr ⟨(⟨rfl, mf_135, tw_t1022, tw_p46, rfl, by decide, 313, (r_134 _ (List.mem_of_getElem? (i := 70) rfl)), Or.inl tw_t1020⟩ : sm_F 134 38 (.invokevirtual 135) 3),
  List.forall_mem_cons.mpr ⟨(Or.inr ⟨320, (r_134 _ (List.mem_of_getElem? (i := 71) rfl)), rfl, tw_t1034⟩ : sm_F 134 42 (.ldc2_w 1936990331) 3),
  List.forall_mem_cons.mpr ⟨(⟨rfl, mf_135, tw_t1022, tw_p46, rfl, by decide, 313, (r_134 _ (List.mem_of_getElem? (i := 72) rfl)), Or.inl tw_t1020⟩ : sm_F 134 45 (.invokevirtual 135) 3),
  List.forall_mem_cons.mpr ⟨(⟨rfl, mf_138, tw_t1037, tw_p49, rfl, by decide, 302, (r_134 _ (List.mem_of_getElem? (i := 73) rfl)), Or.inl tw_t1035⟩ : sm_F 134 50 (.invokevirtual 138) 3),
  List.forall_mem_cons.mpr ⟨(⟨by decide, by decide, rfl, 16, (r_134 _ (List.mem_of_getElem? (i := 74) rfl)), Or.inl tw_t731⟩ : sm_F 134 57 (.getfield 259) 3),
  List.forall_mem_cons.mpr ⟨(⟨by decide, by decide, rfl, 25, (r_134 _ (List.mem_of_getElem? (i := 75) rfl)), Or.inl tw_t734⟩ : sm_F 134 69 (.getfield 262) 3),
  List.forall_mem_cons.mpr ⟨(⟨rfl, mf_138, tw_t1037, tw_p49, rfl, by decide, 302, (r_134 _ (List.mem_of_getElem? (i := 76) rfl)), Or.inl tw_t1035⟩ : sm_F 134 72 (.invokevirtual 138) 3),
  List.forall_mem_cons.mpr ⟨(⟨by decide, by decide, rfl, 25, (r_134 _ (List.mem_of_getElem? (i := 77) rfl)), Or.inl tw_t734⟩ : sm_F 134 76 (.getfield 262) 3),
  List.forall_mem_cons.mpr ⟨(⟨rfl, mf_139, tw_t1041, tw_p50, rfl, by decide, 305, (r_134 _ (List.mem_of_getElem? (i := 78) rfl)), Or.inl tw_t1039⟩ : sm_F 134 82 (.invokevirtual 139) 3),
  List.forall_mem_cons.mpr ⟨(Or.inr ⟨322, (r_134 _ (List.mem_of_getElem? (i := 79) rfl)), rfl, tw_t1043⟩ : sm_F 134 86 (.ldc2_w 276293841780) 3),
  List.forall_mem_cons.mpr ⟨(⟨rfl, mf_135, tw_t1022, tw_p46, rfl, by decide, 313, (r_134 _ (List.mem_of_getElem? (i := 80) rfl)), Or.inl tw_t1020⟩ : sm_F 134 89 (.invokevirtual 135) 3),
  List.forall_mem_cons.mpr ⟨(⟨rfl, mf_138, tw_t1037, tw_p49, rfl, by decide, 302, (r_134 _ (List.mem_of_getElem? (i := 81) rfl)), Or.inl tw_t1035⟩ : sm_F 134 94 (.invokevirtual 138) 3),
  List.forall_mem_cons.mpr ⟨(⟨by decide, by decide, rfl, 25, (r_134 _ (List.mem_of_getElem? (i := 82) rfl)), Or.inl tw_t734⟩ : sm_F 134 98 (.getfield 262) 3),
  List.forall_mem_cons.mpr ⟨(⟨rfl, mf_139, tw_t1041, tw_p50, rfl, by decide, 305, (r_134 _ (List.mem_of_getElem? (i := 83) rfl)), Or.inl tw_t1039⟩ : sm_F 134 104 (.invokevirtual 139) 3),
  List.forall_mem_cons.mpr ⟨(Or.inr ⟨324, (r_134 _ (List.mem_of_getElem? (i := 84) rfl)), rfl, tw_t1044⟩ : sm_F 134 108 (.ldc2_w 8103491322287169654) 3),
  List.forall_mem_cons.mpr ⟨(⟨rfl, mf_135, tw_t1022, tw_p46, rfl, by decide, 313, (r_134 _ (List.mem_of_getElem? (i := 85) rfl)), Or.inl tw_t1020⟩ : sm_F 134 111 (.invokevirtual 135) 3),
  List.forall_mem_cons.mpr ⟨(Or.inr ⟨326, (r_134 _ (List.mem_of_getElem? (i := 86) rfl)), rfl, tw_t1045⟩ : sm_F 134 115 (.ldc2_w 8028057901319156596) 3),
  List.forall_mem_cons.mpr ⟨(⟨rfl, mf_135, tw_t1022, tw_p46, rfl, by decide, 313, (r_134 _ (List.mem_of_getElem? (i := 87) rfl)), Or.inl tw_t1020⟩ : sm_F 134 118 (.invokevirtual 135) 3),
  List.forall_mem_cons.mpr ⟨(⟨rfl, mf_140, tw_t1048, tw_p51, rfl, by decide, 328, (r_134 _ (List.mem_of_getElem? (i := 88) rfl)), Or.inl tw_t1046⟩ : sm_F 134 123 (.invokevirtual 140) 3),
  List.forall_mem_cons.mpr ⟨(Or.inr ⟨331, (r_134 _ (List.mem_of_getElem? (i := 89) rfl)), rfl, tw_t1050⟩ : sm_F 134 127 (.ldc2_w 673783931) 3),
  List.forall_mem_cons.mpr ⟨(⟨rfl, mf_135, tw_t1022, tw_p46, rfl, by decide, 313, (r_134 _ (List.mem_of_getElem? (i := 90) rfl)), Or.inl tw_t1020⟩ : sm_F 134 130 (.invokevirtual 135) 3),
  List.forall_mem_cons.mpr ⟨(⟨rfl, mf_138, tw_t1037, tw_p49, rfl, by decide, 302, (r_134 _ (List.mem_of_getElem? (i := 91) rfl)), Or.inl tw_t1035⟩ : sm_F 134 135 (.invokevirtual 138) 3),
  List.forall_mem_cons.mpr ⟨(⟨rfl, mf_141, tw_t1053, tw_p52, rfl, by decide, 333, (r_134 _ (List.mem_of_getElem? (i := 92) rfl)), Or.inl tw_t1051⟩ : sm_F 134 140 (.invokevirtual 141) 3),
  List.forall_mem_cons.mpr ⟨(⟨by decide, by decide, rfl, 25, (r_134 _ (List.mem_of_getElem? (i := 93) rfl)), Or.inl tw_t734⟩ : sm_F 134 144 (.getfield 262) 3),
  List.forall_mem_cons.mpr ⟨(⟨rfl, mf_139, tw_t1041, tw_p50, rfl, by decide, 305, (r_134 _ (List.mem_of_getElem? (i := 94) rfl)), Or.inl tw_t1039⟩ : sm_F 134 150 (.invokevirtual 139) 3),
  List.forall_mem_cons.mpr ⟨(⟨rfl, mf_136, tw_t1026, tw_p47, rfl, by decide, 293, (r_134 _ (List.mem_of_getElem? (i := 95) rfl)), Or.inl tw_t1024⟩ : sm_F 134 156 (.invokevirtual 136) 3),
  List.forall_mem_cons.mpr ⟨(⟨rfl, mf_138, tw_t1037, tw_p49, rfl, by decide, 302, (r_134 _ (List.mem_of_getElem? (i := 96) rfl)), Or.inl tw_t1035⟩ : sm_F 134 161 (.invokevirtual 138) 3),
  List.forall_mem_cons.mpr ⟨(⟨by decide, by decide, rfl, 25, (r_134 _ (List.mem_of_getElem? (i := 97) rfl)), Or.inl tw_t734⟩ : sm_F 134 171 (.getfield 262) 3),
  List.forall_mem_cons.mpr ⟨(⟨rfl, mf_136, tw_t1026, tw_p47, rfl, by decide, 293, (r_134 _ (List.mem_of_getElem? (i := 98) rfl)), Or.inl tw_t1024⟩ : sm_F 134 178 (.invokevirtual 136) 3),
  List.forall_mem_cons.mpr ⟨(⟨rfl, mf_138, tw_t1037, tw_p49, rfl, by decide, 302, (r_134 _ (List.mem_of_getElem? (i := 99) rfl)), Or.inl tw_t1035⟩ : sm_F 134 183 (.invokevirtual 138) 3),
  List.forall_mem_cons.mpr ⟨(⟨by decide, by decide, rfl, 25, (r_134 _ (List.mem_of_getElem? (i := 100) rfl)), Or.inl tw_t734⟩ : sm_F 134 187 (.getfield 262) 3),
  fun _ h => absurd h List.not_mem_nil⟩⟩⟩⟩⟩⟩⟩⟩⟩⟩⟩⟩⟩⟩⟩⟩⟩⟩⟩⟩⟩⟩⟩⟩⟩⟩⟩⟩⟩⟩⟩⟩⟩⟩⟩⟩⟩⟩⟩⟩
theorem f_134 : ∀ q ∈ cd_134, sm_F 134 q.1 q.2.2.2 q.2.1 := List.forall_mem_append.mpr ⟨fs_134, fl_134⟩
theorem r_135 : ∀ q ∈ cd_135, decode (mB 135) q.1 = .ok (q.2.2.1, q.2.1) := sm_all (by decide +kernel)
theorem fs_135 : ∀ q ∈ sp_135, sm_F 135 q.1 q.2.2.2 q.2.1 := sm_rsl (fun q h => r_135 q (List.mem_append_left _ h)) (by decide +kernel)
theorem fl_135 : ∀ q ∈ lk_135, sm_F 135 q.1 q.2.2.2 q.2.1 := List.forall_mem_cons.mpr ⟨(Or.inr ⟨100, (r_135 _ (List.mem_of_getElem? (i := 20) rfl)), rfl, tw_t854⟩ : sm_F 135 10 (.ldc2_w 255) 3),
  List.forall_mem_cons.mpr ⟨(Or.inr ⟨100, (r_135 _ (List.mem_of_getElem? (i := 21) rfl)), rfl, tw_t854⟩ : sm_F 135 23 (.ldc2_w 255) 3),
  List.forall_mem_cons.mpr ⟨(⟨rfl, mf_136, tw_t1026, tw_p47, rfl, by decide, 293, (r_135 _ (List.mem_of_getElem? (i := 22) rfl)), Or.inl tw_t1024⟩ : sm_F 135 28 (.invokevirtual 136) 3),
  fun _ h => absurd h List.not_mem_nil⟩⟩⟩
theorem f_135 : ∀ q ∈ cd_135, sm_F 135 q.1 q.2.2.2 q.2.1 := List.forall_mem_append.mpr ⟨fs_135, fl_135⟩
theorem r_136 : ∀ q ∈ cd_136, decode (mB 136) q.1 = .ok (q.2.2.1, q.2.1) := sm_all (by decide +kernel)
theorem fs_136 : ∀ q ∈ sp_136, sm_F 136 q.1 q.2.2.2 q.2.1 := sm_rsl (fun q h => r_136 q (List.mem_append_left _ h)) (by decide +kernel)
theorem fl_136 : ∀ q ∈ lk_136, sm_F 136 q.1 q.2.2.2 q.2.1 := List.forall_mem_cons.mpr ⟨(⟨by decide, by decide, rfl, 25, (r_136 _ (List.mem_of_getElem? (i := 8) rfl)), Or.inl tw_t734⟩ : sm_F 136 2 (.getfield 262) 3),
  List.forall_mem_cons.mpr ⟨(⟨rfl, mf_137, tw_t1030, tw_p48, rfl, by decide, 290, (r_136 _ (List.mem_of_getElem? (i := 9) rfl)), Or.inl tw_t1028⟩ : sm_F 136 6 (.invokevirtual 137) 3),
  List.forall_mem_cons.mpr ⟨(⟨by decide, by decide, rfl, 25, (r_136 _ (List.mem_of_getElem? (i := 10) rfl)), Or.inl tw_t734⟩ : sm_F 136 11 (.getfield 262) 3),
  List.forall_mem_cons.mpr ⟨(⟨by decide, by decide, rfl, 25, (r_136 _ (List.mem_of_getElem? (i := 11) rfl)), Or.inl ⟨rfl, Or.inl tw_t734⟩⟩ : sm_F 136 16 (.putfield 262) 3),
  fun _ h => absurd h List.not_mem_nil⟩⟩⟩⟩
theorem f_136 : ∀ q ∈ cd_136, sm_F 136 q.1 q.2.2.2 q.2.1 := List.forall_mem_append.mpr ⟨fs_136, fl_136⟩
theorem r_137 : ∀ q ∈ cd_137, decode (mB 137) q.1 = .ok (q.2.2.1, q.2.1) := sm_all (by decide +kernel)
theorem fs_137 : ∀ q ∈ sp_137, sm_F 137 q.1 q.2.2.2 q.2.1 := sm_rsl (fun q h => r_137 q (List.mem_append_left _ h)) (by decide +kernel)
theorem fl_137 : ∀ q ∈ lk_137, sm_F 137 q.1 q.2.2.2 q.2.1 := List.forall_mem_cons.mpr ⟨(⟨by decide, by decide, rfl, 54, (r_137 _ (List.mem_of_getElem? (i := 29) rfl)), Or.inl tw_t743⟩ : sm_F 137 1 (.getfield 271) 3),
  List.forall_mem_cons.mpr ⟨(⟨by decide, by decide, rfl, 54, (r_137 _ (List.mem_of_getElem? (i := 30) rfl)), Or.inl tw_t743⟩ : sm_F 137 8 (.getfield 271) 3),
  fun _ h => absurd h List.not_mem_nil⟩⟩
theorem f_137 : ∀ q ∈ cd_137, sm_F 137 q.1 q.2.2.2 q.2.1 := List.forall_mem_append.mpr ⟨fs_137, fl_137⟩
theorem r_138 : ∀ q ∈ cd_138, decode (mB 138) q.1 = .ok (q.2.2.1, q.2.1) := sm_all (by decide +kernel)
theorem fs_138 : ∀ q ∈ sp_138, sm_F 138 q.1 q.2.2.2 q.2.1 := sm_rsl (fun q h => r_138 q (List.mem_append_left _ h)) (by decide +kernel)
theorem fl_138 : ∀ q ∈ lk_138, sm_F 138 q.1 q.2.2.2 q.2.1 := List.forall_mem_cons.mpr ⟨(⟨by decide, by decide, rfl, 25, (r_138 _ (List.mem_of_getElem? (i := 16) rfl)), Or.inl tw_t734⟩ : sm_F 138 1 (.getfield 262) 3),
  List.forall_mem_cons.mpr ⟨(⟨by decide, by decide, rfl, 31, (r_138 _ (List.mem_of_getElem? (i := 17) rfl)), Or.inl tw_t736⟩ : sm_F 138 7 (.getfield 264) 3),
  List.forall_mem_cons.mpr ⟨(⟨by decide, by decide, rfl, 25, (r_138 _ (List.mem_of_getElem? (i := 18) rfl)), Or.inl tw_t734⟩ : sm_F 138 15 (.getfield 262) 3),
  List.forall_mem_cons.mpr ⟨(⟨by decide, by decide, rfl, 31, (r_138 _ (List.mem_of_getElem? (i := 19) rfl)), Or.inl ⟨rfl, Or.inl tw_t736⟩⟩ : sm_F 138 20 (.putfield 264) 3),
  List.forall_mem_cons.mpr ⟨(⟨rfl, mf_136, tw_t1026, tw_p47, rfl, by decide, 293, (r_138 _ (List.mem_of_getElem? (i := 20) rfl)), Or.inl tw_t1024⟩ : sm_F 138 26 (.invokevirtual 136) 3),
  List.forall_mem_cons.mpr ⟨(⟨by decide, by decide, rfl, 28, (r_138 _ (List.mem_of_getElem? (i := 21) rfl)), Or.inl tw_t735⟩ : sm_F 138 31 (.getfield 263) 3),
  List.forall_mem_cons.mpr ⟨(⟨by decide, by decide, rfl, 28, (r_138 _ (List.mem_of_getElem? (i := 22) rfl)), Or.inl ⟨rfl, Or.inl tw_t735⟩⟩ : sm_F 138 36 (.putfield 263) 3),
  fun _ h => absurd h List.not_mem_nil⟩⟩⟩⟩⟩⟩⟩
theorem f_138 : ∀ q ∈ cd_138, sm_F 138 q.1 q.2.2.2 q.2.1 := List.forall_mem_append.mpr ⟨fs_138, fl_138⟩
theorem r_139 : ∀ q ∈ cd_139, decode (mB 139) q.1 = .ok (q.2.2.1, q.2.1) := sm_all (by decide +kernel)
theorem fs_139 : ∀ q ∈ sp_139, sm_F 139 q.1 q.2.2.2 q.2.1 := sm_rsl (fun q h => r_139 q (List.mem_append_left _ h)) (by decide +kernel)
theorem fl_139 : ∀ q ∈ lk_139, sm_F 139 q.1 q.2.2.2 q.2.1 := List.forall_mem_cons.mpr ⟨(⟨rfl, mf_136, tw_t1026, tw_p47, rfl, by decide, 293, (r_139 _ (List.mem_of_getElem? (i := 10) rfl)), Or.inl tw_t1024⟩ : sm_F 139 10 (.invokevirtual 136) 3),
  fun _ h => absurd h List.not_mem_nil⟩
theorem f_139 : ∀ q ∈ cd_139, sm_F 139 q.1 q.2.2.2 q.2.1 := List.forall_mem_append.mpr ⟨fs_139, fl_139⟩
theorem r_140 : ∀ q ∈ cd_140, decode (mB 140) q.1 = .ok (q.2.2.1, q.2.1) := sm_all (by decide +kernel)
theorem fs_140 : ∀ q ∈ sp_140, sm_F 140 q.1 q.2.2.2 q.2.1 := sm_rsl (fun q h => r_140 q (List.mem_append_left _ h)) (by decide +kernel)
theorem fl_140 : ∀ q ∈ lk_140, sm_F 140 q.1 q.2.2.2 q.2.1 := List.forall_mem_cons.mpr ⟨(⟨rfl, mf_136, tw_t1026, tw_p47, rfl, by decide, 293, (r_140 _ (List.mem_of_getElem? (i := 16) rfl)), Or.inl tw_t1024⟩ : sm_F 140 14 (.invokevirtual 136) 3),
  List.forall_mem_cons.mpr ⟨(⟨rfl, mf_136, tw_t1026, tw_p47, rfl, by decide, 293, (r_140 _ (List.mem_of_getElem? (i := 17) rfl)), Or.inl tw_t1024⟩ : sm_F 140 25 (.invokevirtual 136) 3),
  fun _ h => absurd h List.not_mem_nil⟩⟩
theorem f_140 : ∀ q ∈ cd_140, sm_F 140 q.1 q.2.2.2 q.2.1 := List.forall_mem_append.mpr ⟨fs_140, fl_140⟩
theorem r_141 : ∀ q ∈ cd_141, decode (mB 141) q.1 = .ok (q.2.2.1, q.2.1) := sm_all (by decide +kernel)
theorem fs_141 : ∀ q ∈ sp_141, sm_F 141 q.1 q.2.2.2 q.2.1 := sm_rsl (fun q h => r_141 q (List.mem_append_left _ h)) (by decide +kernel)
theorem fl_141 : ∀ q ∈ lk_141, sm_F 141 q.1 q.2.2.2 q.2.1 := List.forall_mem_cons.mpr ⟨(⟨by decide, by decide, rfl, 25, (r_141 _ (List.mem_of_getElem? (i := 32) rfl)), Or.inl tw_t734⟩ : sm_F 141 1 (.getfield 262) 3),
  List.forall_mem_cons.mpr ⟨(⟨rfl, mf_139, tw_t1041, tw_p50, rfl, by decide, 305, (r_141 _ (List.mem_of_getElem? (i := 33) rfl)), Or.inl tw_t1039⟩ : sm_F 141 8 (.invokevirtual 139) 3),
  List.forall_mem_cons.mpr ⟨(⟨by decide, by decide, rfl, 57, (r_141 _ (List.mem_of_getElem? (i := 34) rfl)), Or.inl tw_t744⟩ : sm_F 141 15 (.getfield 272) 3),
  List.forall_mem_cons.mpr ⟨(⟨rfl, mf_128, tw_t986, tw_p43, rfl, by decide, 236, (r_141 _ (List.mem_of_getElem? (i := 35) rfl)), Or.inl tw_t984⟩ : sm_F 141 26 (.invokevirtual 128) 3),
  List.forall_mem_cons.mpr ⟨(⟨rfl, mf_136, tw_t1026, tw_p47, rfl, by decide, 293, (r_141 _ (List.mem_of_getElem? (i := 36) rfl)), Or.inl tw_t1024⟩ : sm_F 141 41 (.invokevirtual 136) 3),
  List.forall_mem_cons.mpr ⟨(⟨rfl, mf_142, tw_t1057, tw_p53, rfl, by decide, 308, (r_141 _ (List.mem_of_getElem? (i := 37) rfl)), Or.inl tw_t1055⟩ : sm_F 141 49 (.invokevirtual 142) 3),
  List.forall_mem_cons.mpr ⟨(⟨by decide, by decide, rfl, 25, (r_141 _ (List.mem_of_getElem? (i := 38) rfl)), Or.inl tw_t734⟩ : sm_F 141 53 (.getfield 262) 3),
  List.forall_mem_cons.mpr ⟨(⟨rfl, mf_139, tw_t1041, tw_p50, rfl, by decide, 305, (r_141 _ (List.mem_of_getElem? (i := 39) rfl)), Or.inl tw_t1039⟩ : sm_F 141 60 (.invokevirtual 139) 3),
  List.forall_mem_cons.mpr ⟨(⟨rfl, mf_142, tw_t1057, tw_p53, rfl, by decide, 308, (r_141 _ (List.mem_of_getElem? (i := 40) rfl)), Or.inl tw_t1055⟩ : sm_F 141 71 (.invokevirtual 142) 3),
  fun _ h => absurd h List.not_mem_nil⟩⟩⟩⟩⟩⟩⟩⟩⟩
theorem f_141 : ∀ q ∈ cd_141, sm_F 141 q.1 q.2.2.2 q.2.1 := List.forall_mem_append.mpr ⟨fs_141, fl_141⟩
theorem r_142 : ∀ q ∈ cd_142, decode (mB 142) q.1 = .ok (q.2.2.1, q.2.1) := sm_all (by decide +kernel)
theorem fs_142 : ∀ q ∈ sp_142, sm_F 142 q.1 q.2.2.2 q.2.1 := sm_rsl (fun q h => r_142 q (List.mem_append_left _ h)) (by decide +kernel)
theorem fl_142 : ∀ q ∈ lk_142, sm_F 142 q.1 q.2.2.2 q.2.1 := List.forall_mem_cons.mpr ⟨(⟨rfl, mf_143, tw_t1061, tw_p54, rfl, by decide, 296, (r_142 _ (List.mem_of_getElem? (i := 122) rfl)), Or.inl tw_t1059⟩ : sm_F 142 11 (.invokevirtual 143) 3),
  List.forall_mem_cons.mpr ⟨(⟨by decide, by decide, rfl, 25, (r_142 _ (List.mem_of_getElem? (i := 123) rfl)), Or.inl tw_t734⟩ : sm_F 142 38 (.getfield 262) 3),
  List.forall_mem_cons.mpr ⟨(⟨by decide, by decide, rfl, 86, (r_142 _ (List.mem_of_getElem? (i := 124) rfl)), Or.inl tw_t728⟩ : sm_F 142 45 (.getfield 256) 3),
  List.forall_mem_cons.mpr ⟨(⟨rfl, mf_144, tw_t1065, tw_p55, rfl, by decide, 299, (r_142 _ (List.mem_of_getElem? (i := 125) rfl)), Or.inl tw_t1063⟩ : sm_F 142 55 (.invokevirtual 144) 3),
  List.forall_mem_cons.mpr ⟨(⟨by decide, by decide, rfl, 25, (r_142 _ (List.mem_of_getElem? (i := 126) rfl)), Or.inl tw_t734⟩ : sm_F 142 69 (.getfield 262) 3),
  List.forall_mem_cons.mpr ⟨(⟨rfl, mf_143, tw_t1061, tw_p54, rfl, by decide, 296, (r_142 _ (List.mem_of_getElem? (i := 127) rfl)), Or.inl tw_t1059⟩ : sm_F 142 115 (.invokevirtual 143) 3),
  List.forall_mem_cons.mpr ⟨(⟨rfl, mf_137, tw_t1030, tw_p48, rfl, by decide, 290, (r_142 _ (List.mem_of_getElem? (i := 128) rfl)), Or.inl tw_t1028⟩ : sm_F 142 118 (.invokevirtual 137) 3),
  List.forall_mem_cons.mpr ⟨(⟨rfl, mf_137, tw_t1030, tw_p48, rfl, by decide, 290, (r_142 _ (List.mem_of_getElem? (i := 129) rfl)), Or.inl tw_t1028⟩ : sm_F 142 147 (.invokevirtual 137) 3),
  List.forall_mem_cons.mpr ⟨(⟨rfl, mf_137, tw_t1030, tw_p48, rfl, by decide, 290, (r_142 _ (List.mem_of_getElem? (i := 130) rfl)), Or.inl tw_t1028⟩ : sm_F 142 163 (.invokevirtual 137) 3),
  List.forall_mem_cons.mpr ⟨(⟨by decide, by decide, rfl, 31, (r_142 _ (List.mem_of_getElem? (i := 131) rfl)), Or.inl tw_t736⟩ : sm_F 142 174 (.getfield 264) 3),
  List.forall_mem_cons.mpr ⟨(⟨by decide, by decide, rfl, 31, (r_142 _ (List.mem_of_getElem? (i := 132) rfl)), Or.inl ⟨rfl, Or.inl tw_t736⟩⟩ : sm_F 142 188 (.putfield 264) 3),
  List.forall_mem_cons.mpr ⟨(⟨by decide, by decide, rfl, 28, (r_142 _ (List.mem_of_getElem? (i := 133) rfl)), Or.inl tw_t735⟩ : sm_F 142 193 (.getfield 263) 3),
  List.forall_mem_cons.mpr ⟨(⟨by decide, by decide, rfl, 28, (r_142 _ (List.mem_of_getElem? (i := 134) rfl)), Or.inl ⟨rfl, Or.inl tw_t735⟩⟩ : sm_F 142 198 (.putfield 263) 3),
  List.forall_mem_cons.mpr ⟨(⟨by decide, by decide, rfl, 34, (r_142 _ (List.mem_of_getElem? (i := 135) rfl)), Or.inl tw_t737⟩ : sm_F 142 203 (.getfield 265) 3),
  List.forall_mem_cons.mpr ⟨(⟨by decide, by decide, rfl, 34, (r_142 _ (List.mem_of_getElem? (i := 136) rfl)), Or.inl ⟨rfl, Or.inl tw_t737⟩⟩ : sm_F 142 208 (.putfield 265) 3),
  List.forall_mem_cons.mpr ⟨(⟨by decide, by decide, rfl, 25, (r_142 _ (List.mem_of_getElem? (i := 137) rfl)), Or.inl ⟨rfl, Or.inl tw_t734⟩⟩ : sm_F 142 226 (.putfield 262) 3),
  List.forall_mem_cons.mpr ⟨(⟨rfl, mf_138, tw_t1037, tw_p49, rfl, by decide, 302, (r_142 _ (List.mem_of_getElem? (i := 138) rfl)), Or.inl tw_t1035⟩ : sm_F 142 241 (.invokevirtual 138) 3),
  fun _ h => absurd h List.not_mem_nil⟩⟩⟩⟩⟩⟩⟩⟩⟩⟩⟩⟩⟩⟩⟩⟩⟩
theorem f_142 : ∀ q ∈ cd_142, sm_F 142 q.1 q.2.2.2 q.2.1 := List.forall_mem_append.mpr ⟨fs_142, fl_142⟩
theorem r_143 : ∀ q ∈ cd_143, decode (mB 143) q.1 = .ok (q.2.2.1, q.2.1) := sm_all (by decide +kernel)
theorem fs_143 : ∀ q ∈ sp_143, sm_F 143 q.1 q.2.2.2 q.2.1 := sm_rsl (fun q h => r_143 q (List.mem_append_left _ h)) (by decide +kernel)
theorem fl_143 : ∀ q ∈ lk_143, sm_F 143 q.1 q.2.2.2 q.2.1 := List.forall_mem_cons.mpr ⟨(⟨by decide, by decide, rfl, 54, (r_143 _ (List.mem_of_getElem? (i := 14) rfl)), Or.inl tw_t743⟩ : sm_F 143 1 (.getfield 271) 3),
  fun _ h => absurd h List.not_mem_nil⟩
theorem f_143 : ∀ q ∈ cd_143, sm_F 143 q.1 q.2.2.2 q.2.1 := List.forall_mem_append.mpr ⟨fs_143, fl_143⟩
theorem r_144 : ∀ q ∈ cd_144, decode (mB 144) q.1 = .ok (q.2.2.1, q.2.1) := sm_all (by decide +kernel)
theorem fs_144 : ∀ q ∈ sp_144, sm_F 144 q.1 q.2.2.2 q.2.1 := sm_rsl (fun q h => r_144 q (List.mem_append_left _ h)) (by decide +kernel)
theorem fl_144 : ∀ q ∈ lk_144, sm_F 144 q.1 q.2.2.2 q.2.1 := List.forall_mem_cons.mpr ⟨(⟨by decide, by decide, rfl, 25, (r_144 _ (List.mem_of_getElem? (i := 66) rfl)), Or.inl tw_t734⟩ : sm_F 144 11 (.getfield 262) 3),
  List.forall_mem_cons.mpr ⟨(⟨rfl, mf_143, tw_t1061, tw_p54, rfl, by decide, 296, (r_144 _ (List.mem_of_getElem? (i := 67) rfl)), Or.inl tw_t1059⟩ : sm_F 144 20 (.invokevirtual 143) 3),
  List.forall_mem_cons.mpr ⟨(⟨by decide, by decide, rfl, 25, (r_144 _ (List.mem_of_getElem? (i := 68) rfl)), Or.inl tw_t734⟩ : sm_F 144 94 (.getfield 262) 3),
  List.forall_mem_cons.mpr ⟨(⟨rfl, mf_143, tw_t1061, tw_p54, rfl, by decide, 296, (r_144 _ (List.mem_of_getElem? (i := 69) rfl)), Or.inl tw_t1059⟩ : sm_F 144 105 (.invokevirtual 143) 3),
  List.forall_mem_cons.mpr ⟨(⟨by decide, by decide, rfl, 86, (r_144 _ (List.mem_of_getElem? (i := 70) rfl)), Or.inl tw_t728⟩ : sm_F 144 118 (.getfield 256) 3),
  fun _ h => absurd h List.not_mem_nil⟩⟩⟩⟩⟩
theorem f_144 : ∀ q ∈ cd_144, sm_F 144 q.1 q.2.2.2 q.2.1 := List.forall_mem_append.mpr ⟨fs_144, fl_144⟩
theorem r_145 : ∀ q ∈ cd_145, decode (mB 145) q.1 = .ok (q.2.2.1, q.2.1) := sm_all (by decide +kernel)
theorem fs_145 : ∀ q ∈ sp_145, sm_F 145 q.1 q.2.2.2 q.2.1 := sm_rsl (fun q h => r_145 q (List.mem_append_left _ h)) (by decide +kernel)
theorem fl_145 : ∀ q ∈ lk_145, sm_F 145 q.1 q.2.2.2 q.2.1 := List.forall_mem_cons.mpr ⟨(⟨by decide, by decide, rfl, 25, (r_145 _ (List.mem_of_getElem? (i := 10) rfl)), Or.inl tw_t734⟩ : sm_F 145 6 (.getfield 262) 3),
  List.forall_mem_cons.mpr ⟨(⟨rfl, mf_143, tw_t1061, tw_p54, rfl, by decide, 296, (r_145 _ (List.mem_of_getElem? (i := 11) rfl)), Or.inl tw_t1059⟩ : sm_F 145 18 (.invokevirtual 143) 3),
  fun _ h => absurd h List.not_mem_nil⟩⟩
theorem f_145 : ∀ q ∈ cd_145, sm_F 145 q.1 q.2.2.2 q.2.1 := List.forall_mem_append.mpr ⟨fs_145, fl_145⟩
theorem r_146 : ∀ q ∈ cd_146, decode (mB 146) q.1 = .ok (q.2.2.1, q.2.1) := sm_all (by decide +kernel)
theorem fs_146 : ∀ q ∈ sp_146, sm_F 146 q.1 q.2.2.2 q.2.1 := sm_rsl (fun q h => r_146 q (List.mem_append_left _ h)) (by decide +kernel)
theorem fl_146 : ∀ q ∈ lk_146, sm_F 146 q.1 q.2.2.2 q.2.1 := List.forall_mem_cons.mpr ⟨(⟨by decide, by decide, rfl, 28, (r_146 _ (List.mem_of_getElem? (i := 22) rfl)), Or.inl tw_t735⟩ : sm_F 146 6 (.getfield 263) 3),
  List.forall_mem_cons.mpr ⟨(⟨rfl, mf_143, tw_t1061, tw_p54, rfl, by decide, 296, (r_146 _ (List.mem_of_getElem? (i := 23) rfl)), Or.inl tw_t1059⟩ : sm_F 146 24 (.invokevirtual 143) 3),
  fun _ h => absurd h List.not_mem_nil⟩⟩
theorem f_146 : ∀ q ∈ cd_146, sm_F 146 q.1 q.2.2.2 q.2.1 := List.forall_mem_append.mpr ⟨fs_146, fl_146⟩
theorem r_147 : ∀ q ∈ cd_147, decode (mB 147) q.1 = .ok (q.2.2.1, q.2.1) := sm_all (by decide +kernel)
theorem fs_147 : ∀ q ∈ sp_147, sm_F 147 q.1 q.2.2.2 q.2.1 := sm_rsl (fun q h => r_147 q (List.mem_append_left _ h)) (by decide +kernel)
theorem fl_147 : ∀ q ∈ lk_147, sm_F 147 q.1 q.2.2.2 q.2.1 := List.forall_mem_cons.mpr ⟨(⟨by decide, by decide, rfl, 16, (r_147 _ (List.mem_of_getElem? (i := 55) rfl)), Or.inl tw_t731⟩ : sm_F 147 6 (.getfield 259) 3),
  List.forall_mem_cons.mpr ⟨(⟨by decide, by decide, rfl, 60, (r_147 _ (List.mem_of_getElem? (i := 56) rfl)), Or.inl tw_t745⟩ : sm_F 147 13 (.getfield 273) 3),
  List.forall_mem_cons.mpr ⟨(⟨by decide, by decide, rfl, 16, (r_147 _ (List.mem_of_getElem? (i := 57) rfl)), Or.inl tw_t731⟩ : sm_F 147 35 (.getfield 259) 3),
  List.forall_mem_cons.mpr ⟨(⟨by decide, by decide, rfl, 7, (r_147 _ (List.mem_of_getElem? (i := 58) rfl)), Or.inl tw_t729⟩ : sm_F 147 47 (.getfield 257) 3),
  List.forall_mem_cons.mpr ⟨(⟨by decide, by decide, rfl, 13, (r_147 _ (List.mem_of_getElem? (i := 59) rfl)), Or.inl tw_t730⟩ : sm_F 147 59 (.getfield 258) 3),
  List.forall_mem_cons.mpr ⟨(⟨by decide, by decide, rfl, 25, (r_147 _ (List.mem_of_getElem? (i := 60) rfl)), Or.inl tw_t734⟩ : sm_F 147 71 (.getfield 262) 3),
  List.forall_mem_cons.mpr ⟨(⟨by decide, by decide, rfl, 28, (r_147 _ (List.mem_of_getElem? (i := 61) rfl)), Or.inl tw_t735⟩ : sm_F 147 83 (.getfield 263) 3),
  List.forall_mem_cons.mpr ⟨(⟨by decide, by decide, rfl, 31, (r_147 _ (List.mem_of_getElem? (i := 62) rfl)), Or.inl tw_t736⟩ : sm_F 147 95 (.getfield 264) 3),
  List.forall_mem_cons.mpr ⟨(⟨by decide, by decide, rfl, 34, (r_147 _ (List.mem_of_getElem? (i := 63) rfl)), Or.inl tw_t737⟩ : sm_F 147 108 (.getfield 265) 3),
  fun _ h => absurd h List.not_mem_nil⟩⟩⟩⟩⟩⟩⟩⟩⟩
theorem f_147 : ∀ q ∈ cd_147, sm_F 147 q.1 q.2.2.2 q.2.1 := List.forall_mem_append.mpr ⟨fs_147, fl_147⟩
theorem r_148 : ∀ q ∈ cd_148, decode (mB 148) q.1 = .ok (q.2.2.1, q.2.1) := sm_all (by decide +kernel)
theorem fs_148 : ∀ q ∈ sp_148, sm_F 148 q.1 q.2.2.2 q.2.1 := sm_rsl (fun q h => r_148 q (List.mem_append_left _ h)) (by decide +kernel)
theorem fl_148 : ∀ q ∈ lk_148, sm_F 148 q.1 q.2.2.2 q.2.1 := List.forall_mem_cons.mpr ⟨(⟨by decide, by decide, rfl, 9, (r_148 _ (List.mem_of_getElem? (i := 5) rfl)), Or.inl tw_t1080⟩ : sm_F 148 1 (.getfield 288) 3),
  List.forall_mem_cons.mpr ⟨(⟨rfl, mf_149, tw_t247, tw_t248, rfl, by decide, 335, (r_148 _ (List.mem_of_getElem? (i := 6) rfl)), Or.inl tw_t246⟩ : sm_F 148 6 (.invokevirtual 149) 3),
  fun _ h => absurd h List.not_mem_nil⟩⟩
theorem f_148 : ∀ q ∈ cd_148, sm_F 148 q.1 q.2.2.2 q.2.1 := List.forall_mem_append.mpr ⟨fs_148, fl_148⟩
theorem r_149 : ∀ q ∈ cd_149, decode (mB 149) q.1 = .ok (q.2.2.1, q.2.1) := sm_all (by decide +kernel)
theorem fs_149 : ∀ q ∈ sp_149, sm_F 149 q.1 q.2.2.2 q.2.1 := sm_rsl (fun q h => r_149 q (List.mem_append_left _ h)) (by decide +kernel)
theorem fl_149 : ∀ q ∈ lk_149, sm_F 149 q.1 q.2.2.2 q.2.1 := List.forall_mem_cons.mpr ⟨(⟨38, (r_149 _ (List.mem_of_getElem? (i := 5) rfl)), rfl, by decide, tw_t240⟩ : sm_F 149 0 (.getstatic 0) 3),
  List.forall_mem_cons.mpr ⟨(⟨by decide, by decide, rfl, 15, (r_149 _ (List.mem_of_getElem? (i := 6) rfl)), Or.inl tw_t1079⟩ : sm_F 149 7 (.getfield 289) 3),
  fun _ h => absurd h List.not_mem_nil⟩⟩
theorem f_149 : ∀ q ∈ cd_149, sm_F 149 q.1 q.2.2.2 q.2.1 := List.forall_mem_append.mpr ⟨fs_149, fl_149⟩
theorem r_150 : ∀ q ∈ cd_150, decode (mB 150) q.1 = .ok (q.2.2.1, q.2.1) := sm_all (by decide +kernel)
theorem fs_150 : ∀ q ∈ sp_150, sm_F 150 q.1 q.2.2.2 q.2.1 := sm_rsl (fun q h => r_150 q (List.mem_append_left _ h)) (by decide +kernel)
theorem fl_150 : ∀ q ∈ lk_150, sm_F 150 q.1 q.2.2.2 q.2.1 := List.forall_mem_cons.mpr ⟨(⟨rfl, mf_151, tw_t237, tw_t238, rfl, by decide, 492, (r_150 _ (List.mem_of_getElem? (i := 8) rfl)), Or.inl tw_t236⟩ : sm_F 150 1 (.invokevirtual 151) 3),
  List.forall_mem_cons.mpr ⟨(⟨by decide, by decide, rfl, 9, (r_150 _ (List.mem_of_getElem? (i := 9) rfl)), Or.inl tw_t1080⟩ : sm_F 150 8 (.getfield 288) 3),
  List.forall_mem_cons.mpr ⟨(⟨rfl, mf_155, tw_t349, 495, (r_150 _ (List.mem_of_getElem? (i := 10) rfl)), Or.inl tw_t348⟩ : sm_F 150 12 (.invokestatic 155) 3),
  List.forall_mem_cons.mpr ⟨(⟨by decide, by decide, rfl, 9, (r_150 _ (List.mem_of_getElem? (i := 11) rfl)), Or.inl tw_t1080⟩ : sm_F 150 17 (.getfield 288) 3),
  fun _ h => absurd h List.not_mem_nil⟩⟩⟩⟩
theorem f_150 : ∀ q ∈ cd_150, sm_F 150 q.1 q.2.2.2 q.2.1 := List.forall_mem_append.mpr ⟨fs_150, fl_150⟩
theorem r_151 : ∀ q ∈ cd_151, decode (mB 151) q.1 = .ok (q.2.2.1, q.2.1) := sm_all (by decide +kernel)
theorem fs_151 : ∀ q ∈ sp_151, sm_F 151 q.1 q.2.2.2 q.2.1 := sm_rsl (fun q h => r_151 q (List.mem_append_left _ h)) (by decide +kernel)
theorem fl_151 : ∀ q ∈ lk_151, sm_F 151 q.1 q.2.2.2 q.2.1 := List.forall_mem_cons.mpr ⟨(⟨38, (r_151 _ (List.mem_of_getElem? (i := 7) rfl)), rfl, by decide, tw_t240⟩ : sm_F 151 0 (.getstatic 0) 3),
  List.forall_mem_cons.mpr ⟨(⟨by decide, by decide, rfl, 15, (r_151 _ (List.mem_of_getElem? (i := 8) rfl)), Or.inl tw_t1079⟩ : sm_F 151 7 (.getfield 289) 3),
  fun _ h => absurd h List.not_mem_nil⟩⟩
theorem f_151 : ∀ q ∈ cd_151, sm_F 151 q.1 q.2.2.2 q.2.1 := List.forall_mem_append.mpr ⟨fs_151, fl_151⟩
theorem r_152 : ∀ q ∈ cd_152, decode (mB 152) q.1 = .ok (q.2.2.1, q.2.1) := sm_all (by decide +kernel)
theorem fs_152 : ∀ q ∈ sp_152, sm_F 152 q.1 q.2.2.2 q.2.1 := sm_rsl (fun q h => r_152 q (List.mem_append_left _ h)) (by decide +kernel)
theorem fl_152 : ∀ q ∈ lk_152, sm_F 152 q.1 q.2.2.2 q.2.1 := List.forall_mem_cons.mpr ⟨(⟨rfl, mf_153, tw_t233, tw_t234, rfl, by decide, 633, (r_152 _ (List.mem_of_getElem? (i := 4) rfl)), Or.inl tw_t232⟩ : sm_F 152 3 (.invokevirtual 153) 3),
  fun _ h => absurd h List.not_mem_nil⟩
theorem f_152 : ∀ q ∈ cd_152, sm_F 152 q.1 q.2.2.2 q.2.1 := List.forall_mem_append.mpr ⟨fs_152, fl_152⟩
theorem r_153 : ∀ q ∈ cd_153, decode (mB 153) q.1 = .ok (q.2.2.1, q.2.1) := sm_all (by decide +kernel)
theorem fs_153 : ∀ q ∈ sp_153, sm_F 153 q.1 q.2.2.2 q.2.1 := sm_rsl (fun q h => r_153 q (List.mem_append_left _ h)) (by decide +kernel)
theorem fl_153 : ∀ q ∈ lk_153, sm_F 153 q.1 q.2.2.2 q.2.1 := List.forall_mem_cons.mpr ⟨(⟨rfl, mf_151, tw_t237, tw_t238, rfl, by decide, 492, (r_153 _ (List.mem_of_getElem? (i := 12) rfl)), Or.inl tw_t236⟩ : sm_F 153 1 (.invokevirtual 151) 3),
  List.forall_mem_cons.mpr ⟨(⟨by decide, by decide, rfl, 9, (r_153 _ (List.mem_of_getElem? (i := 13) rfl)), Or.inl tw_t1080⟩ : sm_F 153 8 (.getfield 288) 3),
  List.forall_mem_cons.mpr ⟨(⟨rfl, mf_148, tw_t243, tw_t244, rfl, by decide, 505, (r_153 _ (List.mem_of_getElem? (i := 14) rfl)), Or.inl tw_t242⟩ : sm_F 153 14 (.invokevirtual 148) 3),
  List.forall_mem_cons.mpr ⟨(⟨rfl, mf_156, tw_t251, 637, (r_153 _ (List.mem_of_getElem? (i := 15) rfl)), Or.inl tw_t250⟩ : sm_F 153 17 (.invokestatic 156) 3),
  List.forall_mem_cons.mpr ⟨(⟨by decide, by decide, rfl, 9, (r_153 _ (List.mem_of_getElem? (i := 16) rfl)), Or.inl tw_t1080⟩ : sm_F 153 24 (.getfield 288) 3),
  List.forall_mem_cons.mpr ⟨(⟨rfl, mf_148, tw_t243, tw_t244, rfl, by decide, 505, (r_153 _ (List.mem_of_getElem? (i := 17) rfl)), Or.inl tw_t242⟩ : sm_F 153 30 (.invokevirtual 148) 3),
  fun _ h => absurd h List.not_mem_nil⟩⟩⟩⟩⟩⟩
theorem f_153 : ∀ q ∈ cd_153, sm_F 153 q.1 q.2.2.2 q.2.1 := List.forall_mem_append.mpr ⟨fs_153, fl_153⟩
theorem r_154 : ∀ q ∈ cd_154, decode (mB 154) q.1 = .ok (q.2.2.1, q.2.1) := sm_all (by decide +kernel)
theorem fs_154 : ∀ q ∈ sp_154, sm_F 154 q.1 q.2.2.2 q.2.1 := sm_rsl (fun q h => r_154 q (List.mem_append_left _ h)) (by decide +kernel)
theorem fl_154 : ∀ q ∈ lk_154, sm_F 154 q.1 q.2.2.2 q.2.1 := List.forall_mem_cons.mpr ⟨(⟨rfl, 1053, (r_154 _ (List.mem_of_getElem? (i := 4) rfl)), tw_t279⟩ : sm_F 154 2 .nop 3),
  List.forall_mem_cons.mpr ⟨(⟨rfl, mf_159, tw_t355, 1059, (r_154 _ (List.mem_of_getElem? (i := 5) rfl)), Or.inl tw_t354⟩ : sm_F 154 5 (.invokestatic 159) 3),
  fun _ h => absurd h List.not_mem_nil⟩⟩
theorem f_154 : ∀ q ∈ cd_154, sm_F 154 q.1 q.2.2.2 q.2.1 := List.forall_mem_append.mpr ⟨fs_154, fl_154⟩
theorem r_155 : ∀ q ∈ cd_155, decode (mB 155) q.1 = .ok (q.2.2.1, q.2.1) := sm_all (by decide +kernel)
theorem fs_155 : ∀ q ∈ sp_155, sm_F 155 q.1 q.2.2.2 q.2.1 := sm_rsl (fun q h => r_155 q (List.mem_append_left _ h)) (by decide +kernel)
theorem fl_155 : ∀ q ∈ lk_155, sm_F 155 q.1 q.2.2.2 q.2.1 := List.forall_mem_cons.mpr ⟨(⟨rfl, mf_154, tw_t352, 9, (r_155 _ (List.mem_of_getElem? (i := 10) rfl)), Or.inl tw_t351⟩ : sm_F 155 3 (.invokestatic 154) 3),
  fun _ h => absurd h List.not_mem_nil⟩
theorem f_155 : ∀ q ∈ cd_155, sm_F 155 q.1 q.2.2.2 q.2.1 := List.forall_mem_append.mpr ⟨fs_155, fl_155⟩
theorem r_156 : ∀ q ∈ cd_156, decode (mB 156) q.1 = .ok (q.2.2.1, q.2.1) := sm_all (by decide +kernel)
theorem fs_156 : ∀ q ∈ sp_156, sm_F 156 q.1 q.2.2.2 q.2.1 := sm_rsl (fun q h => r_156 q (List.mem_append_left _ h)) (by decide +kernel)
theorem fl_156 : ∀ q ∈ lk_156, sm_F 156 q.1 q.2.2.2 q.2.1 := List.forall_mem_cons.mpr ⟨(⟨rfl, mf_157, tw_t254, 88, (r_156 _ (List.mem_of_getElem? (i := 21) rfl)), Or.inl tw_t253⟩ : sm_F 156 1 (.invokestatic 157) 3),
  List.forall_mem_cons.mpr ⟨(⟨rfl, 92, (r_156 _ (List.mem_of_getElem? (i := 22) rfl)), tw_t256, tw_t127, tw_t9, tw_t128⟩ : sm_F 156 11 .dadd 3),
  List.forall_mem_cons.mpr ⟨(⟨rfl, 38, (r_156 _ (List.mem_of_getElem? (i := 23) rfl)), tw_t257, tw_t124, tw_t9, tw_t125⟩ : sm_F 156 18 .dsub 3),
  List.forall_mem_cons.mpr ⟨(⟨rfl, mf_158, tw_t259, 95, (r_156 _ (List.mem_of_getElem? (i := 24) rfl)), Or.inl tw_t258⟩ : sm_F 156 33 (.invokestatic 158) 3),
  fun _ h => absurd h List.not_mem_nil⟩⟩⟩⟩
theorem f_156 : ∀ q ∈ cd_156, sm_F 156 q.1 q.2.2.2 q.2.1 := List.forall_mem_append.mpr ⟨fs_156, fl_156⟩
theorem r_157 : ∀ q ∈ cd_157, decode (mB 157) q.1 = .ok (q.2.2.1, q.2.1) := sm_all (by decide +kernel)
theorem fs_157 : ∀ q ∈ sp_157, sm_F 157 q.1 q.2.2.2 q.2.1 := sm_rsl (fun q h => r_157 q (List.mem_append_left _ h)) (by decide +kernel)
theorem fl_157 : ∀ q ∈ lk_157, sm_F 157 q.1 q.2.2.2 q.2.1 := fun _ h => absurd h List.not_mem_nil
theorem f_157 : ∀ q ∈ cd_157, sm_F 157 q.1 q.2.2.2 q.2.1 := List.forall_mem_append.mpr ⟨fs_157, fl_157⟩
theorem r_158 : ∀ q ∈ cd_158, decode (mB 158) q.1 = .ok (q.2.2.1, q.2.1) := sm_all (by decide +kernel)
theorem fs_158 : ∀ q ∈ sp_158, sm_F 158 q.1 q.2.2.2 q.2.1 := sm_rsl (fun q h => r_158 q (List.mem_append_left _ h)) (by decide +kernel)
theorem fl_158 : ∀ q ∈ lk_158, sm_F 158 q.1 q.2.2.2 q.2.1 := fun _ h => absurd h List.not_mem_nil
theorem f_158 : ∀ q ∈ cd_158, sm_F 158 q.1 q.2.2.2 q.2.1 := List.forall_mem_append.mpr ⟨fs_158, fl_158⟩
theorem r_159 : ∀ q ∈ cd_159, decode (mB 159) q.1 = .ok (q.2.2.1, q.2.1) := sm_all (by decide +kernel)
theorem fs_159 : ∀ q ∈ sp_159, sm_F 159 q.1 q.2.2.2 q.2.1 := sm_rsl (fun q h => r_159 q (List.mem_append_left _ h)) (by decide +kernel)
theorem fl_159 : ∀ q ∈ lk_159, sm_F 159 q.1 q.2.2.2 q.2.1 := fun _ h => absurd h List.not_mem_nil
theorem f_159 : ∀ q ∈ cd_159, sm_F 159 q.1 q.2.2.2 q.2.1 := List.forall_mem_append.mpr ⟨fs_159, fl_159⟩
end
section
theorem f_all : ∀ mid pc i len, rc mid pc = some (i, len) → sm_F mid pc i len := by
  intro mid pc i len h
  unfold rc at h
  split at h
  · rename_i c hc
    obtain ⟨raw, hm⟩ := rcl_mem h
    match mid, hc with
    | 0, hc => cases hc; exact f_0 _ hm
    | 1, hc => cases hc; exact f_1 _ hm
    | 2, hc => cases hc; exact f_2 _ hm
    | 3, hc => cases hc; exact f_3 _ hm
    | 4, hc => cases hc; exact f_4 _ hm
    | 5, hc => cases hc; exact f_5 _ hm
    | 6, hc => cases hc; exact f_6 _ hm
    | 7, hc => cases hc; exact f_7 _ hm
    | 8, hc => cases hc; exact f_8 _ hm
    | 9, hc => cases hc; exact f_9 _ hm
    | 10, hc => cases hc; exact f_10 _ hm
    | 11, hc => cases hc; exact f_11 _ hm
    | 12, hc => cases hc; exact f_12 _ hm
    | 13, hc => cases hc; exact f_13 _ hm
    | 14, hc => cases hc; exact f_14 _ hm
    | 15, hc => cases hc; exact f_15 _ hm
    | 16, hc => cases hc; exact f_16 _ hm
    | 17, hc => cases hc; exact f_17 _ hm
    | 18, hc => cases hc; exact f_18 _ hm
    | 19, hc => cases hc; exact f_19 _ hm
    | 20, hc => cases hc; exact f_20 _ hm
    | 21, hc => cases hc; exact f_21 _ hm
    | 22, hc => cases hc; exact f_22 _ hm
    | 23, hc => cases hc; exact f_23 _ hm
    | 24, hc => cases hc; exact f_24 _ hm
    | 25, hc => cases hc; exact f_25 _ hm
    | 26, hc => cases hc; exact f_26 _ hm
    | 27, hc => cases hc; exact f_27 _ hm
    | 28, hc => cases hc; exact f_28 _ hm
    | 29, hc => cases hc; exact f_29 _ hm
    | 30, hc => cases hc; exact f_30 _ hm
    | 31, hc => cases hc; exact f_31 _ hm
    | 32, hc => cases hc; exact f_32 _ hm
    | 33, hc => cases hc; exact f_33 _ hm
    | 34, hc => cases hc; exact f_34 _ hm
    | 35, hc => cases hc; exact f_35 _ hm
    | 36, hc => cases hc; exact f_36 _ hm
    | 37, hc => cases hc; exact f_37 _ hm
    | 38, hc => cases hc; exact f_38 _ hm
    | 39, hc => cases hc; exact f_39 _ hm
    | 40, hc => cases hc; exact f_40 _ hm
    | 41, hc => cases hc; exact f_41 _ hm
    | 42, hc => cases hc; exact f_42 _ hm
    | 43, hc => cases hc; exact f_43 _ hm
    | 44, hc => cases hc; exact f_44 _ hm
    | 45, hc => cases hc; exact f_45 _ hm
    | 46, hc => cases hc; exact f_46 _ hm
    | 47, hc => cases hc; exact f_47 _ hm
    | 48, hc => cases hc; exact f_48 _ hm
    | 49, hc => cases hc; exact f_49 _ hm
    | 50, hc => cases hc; exact f_50 _ hm
    | 51, hc => cases hc; exact f_51 _ hm
    | 52, hc => cases hc; exact f_52 _ hm
    | 53, hc => cases hc; exact f_53 _ hm
    | 54, hc => cases hc; exact f_54 _ hm
    | 55, hc => cases hc; exact f_55 _ hm
    | 56, hc => cases hc; exact f_56 _ hm
    | 57, hc => cases hc; exact f_57 _ hm
    | 58, hc => cases hc; exact f_58 _ hm
    | 59, hc => cases hc; exact f_59 _ hm
    | 60, hc => cases hc; exact f_60 _ hm
    | 61, hc => cases hc; exact f_61 _ hm
    | 62, hc => cases hc; exact f_62 _ hm
    | 63, hc => cases hc; exact f_63 _ hm
    | 64, hc => cases hc; exact f_64 _ hm
    | 65, hc => cases hc; exact f_65 _ hm
    | 66, hc => cases hc; exact f_66 _ hm
    | 67, hc => cases hc; exact f_67 _ hm
    | 68, hc => cases hc; exact f_68 _ hm
    | 69, hc => cases hc; exact f_69 _ hm
    | 70, hc => cases hc; exact f_70 _ hm
    | 71, hc => cases hc; exact f_71 _ hm
    | 72, hc => cases hc; exact f_72 _ hm
    | 73, hc => cases hc; exact f_73 _ hm
    | 74, hc => cases hc; exact f_74 _ hm
    | 75, hc => cases hc; exact f_75 _ hm
    | 76, hc => cases hc; exact f_76 _ hm
    | 77, hc => cases hc; exact f_77 _ hm
    | 78, hc => cases hc; exact f_78 _ hm
    | 79, hc => cases hc; exact f_79 _ hm
    | 80, hc => cases hc; exact f_80 _ hm
    | 81, hc => cases hc; exact f_81 _ hm
    | 82, hc => cases hc; exact f_82 _ hm
    | 83, hc => cases hc; exact f_83 _ hm
    | 84, hc => cases hc; exact f_84 _ hm
    | 85, hc => cases hc; exact f_85 _ hm
    | 86, hc => cases hc; exact f_86 _ hm
    | 87, hc => cases hc; exact f_87 _ hm
    | 88, hc => cases hc; exact f_88 _ hm
    | 89, hc => cases hc; exact f_89 _ hm
    | 90, hc => cases hc; exact f_90 _ hm
    | 91, hc => cases hc; exact f_91 _ hm
    | 92, hc => cases hc; exact f_92 _ hm
    | 93, hc => cases hc; exact f_93 _ hm
    | 94, hc => cases hc; exact f_94 _ hm
    | 95, hc => cases hc; exact f_95 _ hm
    | 96, hc => cases hc; exact f_96 _ hm
    | 97, hc => cases hc; exact f_97 _ hm
    | 98, hc => cases hc; exact f_98 _ hm
    | 99, hc => cases hc; exact f_99 _ hm
    | 100, hc => cases hc; exact f_100 _ hm
    | 101, hc => cases hc; exact f_101 _ hm
    | 102, hc => cases hc; exact f_102 _ hm
    | 103, hc => cases hc; exact f_103 _ hm
    | 104, hc => cases hc; exact f_104 _ hm
    | 105, hc => cases hc; exact f_105 _ hm
    | 106, hc => cases hc; exact f_106 _ hm
    | 107, hc => cases hc; exact f_107 _ hm
    | 108, hc => cases hc; exact f_108 _ hm
    | 109, hc => cases hc; exact f_109 _ hm
    | 110, hc => cases hc; exact f_110 _ hm
    | 111, hc => cases hc; exact f_111 _ hm
    | 112, hc => cases hc; exact f_112 _ hm
    | 113, hc => cases hc; exact f_113 _ hm
    | 114, hc => cases hc; exact f_114 _ hm
    | 115, hc => cases hc; exact f_115 _ hm
    | 116, hc => cases hc; exact f_116 _ hm
    | 117, hc => cases hc; exact f_117 _ hm
    | 118, hc => cases hc; exact f_118 _ hm
    | 119, hc => cases hc; exact f_119 _ hm
    | 120, hc => cases hc; exact f_120 _ hm
    | 121, hc => cases hc; exact f_121 _ hm
    | 122, hc => cases hc; exact f_122 _ hm
    | 123, hc => cases hc; exact f_123 _ hm
    | 124, hc => cases hc; exact f_124 _ hm
    | 125, hc => cases hc; exact f_125 _ hm
    | 126, hc => cases hc; exact f_126 _ hm
    | 127, hc => cases hc; exact f_127 _ hm
    | 128, hc => cases hc; exact f_128 _ hm
    | 129, hc => cases hc; exact f_129 _ hm
    | 130, hc => cases hc; exact f_130 _ hm
    | 131, hc => cases hc; exact f_131 _ hm
    | 132, hc => cases hc; exact f_132 _ hm
    | 133, hc => cases hc; exact f_133 _ hm
    | 134, hc => cases hc; exact f_134 _ hm
    | 135, hc => cases hc; exact f_135 _ hm
    | 136, hc => cases hc; exact f_136 _ hm
    | 137, hc => cases hc; exact f_137 _ hm
    | 138, hc => cases hc; exact f_138 _ hm
    | 139, hc => cases hc; exact f_139 _ hm
    | 140, hc => cases hc; exact f_140 _ hm
    | 141, hc => cases hc; exact f_141 _ hm
    | 142, hc => cases hc; exact f_142 _ hm
    | 143, hc => cases hc; exact f_143 _ hm
    | 144, hc => cases hc; exact f_144 _ hm
    | 145, hc => cases hc; exact f_145 _ hm
    | 146, hc => cases hc; exact f_146 _ hm
    | 147, hc => cases hc; exact f_147 _ hm
    | 148, hc => cases hc; exact f_148 _ hm
    | 149, hc => cases hc; exact f_149 _ hm
    | 150, hc => cases hc; exact f_150 _ hm
    | 151, hc => cases hc; exact f_151 _ hm
    | 152, hc => cases hc; exact f_152 _ hm
    | 153, hc => cases hc; exact f_153 _ hm
    | 154, hc => cases hc; exact f_154 _ hm
    | 155, hc => cases hc; exact f_155 _ hm
    | 156, hc => cases hc; exact f_156 _ hm
    | 157, hc => cases hc; exact f_157 _ hm
    | 158, hc => cases hc; exact f_158 _ hm
    | 159, hc => cases hc; exact f_159 _ hm
    | n + 160, hc => exact absurd (List.getElem?_eq_some_iff.mp hc).1 (by show ¬ n + 160 < 160; omega)
  · cases h
end
section
/-! RUNS AS GOALS -/
def wp (d mid pc : Nat) (ls : AL) (st : List Value) (h : AH) (Q : Option Value → AH → Prop) : Prop := ∃ (n : Nat) (r : Option Value) (h' : AH), am_run d n mid pc ls st h = some (r, h') ∧ Q r h'
theorem am_run_more : ∀ (n d mid pc : Nat) (ls : AL) (st : List Value) (h : AH) (x : Option Value × AH), am_run d n mid pc ls st h = some x → am_run d (n + 1) mid pc ls st h = some x := by
  intro n
  induction n with
  | zero => intro d mid pc ls st h x hr; simp [am_run] at hr
  | succ n ih =>
    intro d mid pc ls st h x hr
    rw [am_run] at hr ⊢
    cases hrc : rc mid pc with
    | none => rw [hrc] at hr; cases hr
    | some il =>
      obtain ⟨i, len⟩ := il
      rw [hrc] at hr
      dsimp only at hr ⊢
      cases hret : am_ret i st with
      | some r => rw [hret] at hr; exact hr
      | none =>
        rw [hret] at hr
        dsimp only at hr ⊢
        cases hcall : am_call i st with
        | some q =>
          obtain ⟨cm, vs, rest⟩ := q
          rw [hcall] at hr
          dsimp only at hr ⊢
          cases d with
          | zero => cases hr
          | succ d' =>
            dsimp only at hr ⊢
            by_cases hok : am_ok i cm vs rest h = true
            · rw [if_pos hok] at hr ⊢
              cases h1 : am_run d' n cm 0 (am_entry (mL cm) vs) [] h with
              | none => rw [h1] at hr; cases hr
              | some y =>
                obtain ⟨r1, g1⟩ := y
                rw [h1] at hr
                rw [ih _ _ _ _ _ _ _ h1]
                exact ih _ _ _ _ _ _ _ hr
            · rw [if_neg hok] at hr; cases hr
        | none =>
          rw [hcall] at hr
          dsimp only at hr ⊢
          cases hs : am_step d i len pc ls st h with
          | none => rw [hs] at hr; cases hr
          | some y =>
            obtain ⟨pc', ls', st', h'⟩ := y
            rw [hs] at hr
            exact ih _ _ _ _ _ _ _ hr
theorem am_run_le {n n' d mid pc : Nat} {ls : AL} {st : List Value} {h : AH} {x : Option Value × AH} (hn : n ≤ n') (hr : am_run d n mid pc ls st h = some x) : am_run d n' mid pc ls st h = some x := by
  obtain ⟨k, rfl⟩ := Nat.exists_eq_add_of_le hn
  clear hn
  induction k with
  | zero => exact hr
  | succ k ih => exact am_run_more _ _ _ _ _ _ _ _ ih
section WP
variable {d mid pc pc' len : Nat} {i : Instr} {ls ls' : AL} {st st' : List Value} {h h' : AH} {Q : Option Value → AH → Prop}
theorem wp_step (hc : rc mid pc = some (i, len)) (hr : am_ret i st = none) (hcl : am_call i st = none) (hs : am_step d i len pc ls st h = some (pc', ls', st', h')) : wp d mid pc ls st h Q ↔ wp d mid pc' ls' st' h' Q := by
  constructor
  · rintro ⟨n, r, g, hn, hq⟩
    cases n with
    | zero => simp [am_run] at hn
    | succ n =>
      rw [am_run, hc] at hn
      dsimp only at hn
      rw [hr] at hn
      dsimp only at hn
      rw [hcl] at hn
      dsimp only at hn
      rw [hs] at hn
      exact ⟨n, r, g, hn, hq⟩
  · rintro ⟨n, r, g, hn, hq⟩
    refine ⟨n + 1, r, g, ?_, hq⟩
    rw [am_run, hc]
    dsimp only
    rw [hr]
    dsimp only
    rw [hcl]
    dsimp only
    rw [hs]
    exact hn
theorem wp_ret {r : Option Value} (hc : rc mid pc = some (i, len)) (hr : am_ret i st = some r) (hok : am_rok (mR mid) r = true) : wp d mid pc ls st h Q ↔ Q r h := by
  constructor
  · rintro ⟨n, r', g, hn, hq⟩
    cases n with
    | zero => simp [am_run] at hn
    | succ n =>
      rw [am_run, hc] at hn
      dsimp only at hn
      rw [hr] at hn
      dsimp only at hn
      rw [if_pos hok] at hn
      cases hn
      exact hq
  · intro hq
    refine ⟨1, r, h, ?_, hq⟩
    rw [am_run, hc]
    dsimp only
    rw [hr]
    dsimp only
    rw [if_pos hok]
theorem wp_call {cm : Nat} {vs rest : List Value} (hc : rc mid pc = some (i, len)) (hr : am_ret i st = none) (hcl : am_call i st = some (cm, vs, rest)) (hok : am_ok i cm vs rest h = true) : wp (d + 1) mid pc ls st h Q ↔ wp d cm 0 (am_entry (mL cm) vs) [] h (fun r h1 => wp (d + 1) mid (pc + len) ls (r.toList ++ rest) h1 Q) := by
  constructor
  · rintro ⟨n, r, g, hn, hq⟩
    cases n with
    | zero => simp [am_run] at hn
    | succ n =>
      rw [am_run, hc] at hn
      dsimp only at hn
      rw [hr] at hn
      dsimp only at hn
      rw [hcl] at hn
      dsimp only at hn
      rw [if_pos hok] at hn
      cases h1 : am_run d n cm 0 (am_entry (mL cm) vs) [] h with
      | none => rw [h1] at hn; cases hn
      | some y =>
        obtain ⟨r1, g1⟩ := y
        rw [h1] at hn
        exact ⟨n, r1, g1, h1, n, r, g, hn, hq⟩
  · rintro ⟨n, r1, g1, h1, n2, r, g, hn, hq⟩
    refine ⟨max n n2 + 1, r, g, ?_, hq⟩
    rw [am_run, hc]
    dsimp only
    rw [hr]
    dsimp only
    rw [hcl]
    dsimp only
    rw [if_pos hok, am_run_le (Nat.le_max_left n n2) h1]
    exact am_run_le (Nat.le_max_right n n2) hn
theorem wp_mono {P : Option Value → AH → Prop} (hw : wp d mid pc ls st h P) (hq : ∀ r g, P r g → Q r g) : wp d mid pc ls st h Q := by
  obtain ⟨n, r, g, hn, hp⟩ := hw
  exact ⟨n, r, g, hn, hq r g hp⟩
-- what a heap holds
def fld (h : AH) (a k : Nat) : Value := match h[a]? with
  | some (_, fs) => fs.getD k .null
  | none => .null
def okF (h : AH) (a x : Nat) : Prop := ∃ fs, h[a]? = some (.inr (am_fc x), fs) ∧ am_fk x < fs.length
def hput (h : AH) (a k : Nat) (v : Value) : AH := match h[a]? with
  | some (t, fs) => h.set a (t, fs.set k v)
  | none => h
def okA (ok : FieldType → Bool) (h : AH) (a : Nat) (j : Int32) : Prop := ∃ ty vs, h[a]? = some (.inl ty, vs) ∧ ok ty = true ∧ ¬ j < 0 ∧ j.toNatClampNeg < vs.length
def arr (h : AH) (a : Nat) (j : Int32) : Value := match h[a]? with
  | some (_, vs) => vs.getD j.toNatClampNeg .null
  | none => .null
def alen (h : AH) (a : Nat) : Nat := match h[a]? with
  | some (_, vs) => vs.length
  | none => 0
def isA (h : AH) (a : Nat) : Prop := ∃ ty vs, h[a]? = some (.inl ty, vs)
def hast (h : AH) (a : Nat) (j : Int32) (v : Value) : AH := match h[a]? with
  | some (t, vs) => h.set a (t, vs.set j.toNatClampNeg v)
  | none => h
theorem wp_getf {x a : Nat} (hc : rc mid pc = some (.getfield x, 3)) (ho : okF h a x) : wp d mid pc ls (.ref a :: st) h Q ↔ wp d mid (pc + 3) ls (fld h a (am_fk x) :: st) h Q := by
  obtain ⟨fs, h1, h2⟩ := ho
  refine wp_step hc rfl rfl ?_
  show am_nx pc 3 ls h (am_getf x h (.ref a :: st)) = _
  have e : fs[am_fk x]? = some (fs.getD (am_fk x) .null) := by
    rw [List.getD_eq_getElem?_getD, List.getElem?_eq_getElem h2]
    rfl
  unfold am_getf fld
  rw [h1]
  dsimp only
  rw [if_pos rfl, e]
  rfl
theorem wp_putf {x a : Nat} {v : Value} (hc : rc mid pc = some (.putfield x, 3)) (ho : okF h a x) (hs : sN ≤ a) (hn : narrow (cF (am_fc x) (am_fk x)) v = v) (hf : fits (cF (am_fc x) (am_fk x)) v = true) : wp d mid pc ls (v :: .ref a :: st) h Q ↔ wp d mid (pc + 3) ls st (hput h a (am_fk x) v) Q := by
  obtain ⟨fs, h1, h2⟩ := ho
  refine wp_step hc rfl rfl ?_
  show am_nh pc 3 ls (am_putf x h (v :: .ref a :: st)) = _
  unfold am_putf hput
  rw [h1]
  dsimp only
  rw [if_pos ⟨rfl, h2, hs, hn, hf⟩]
  rfl
theorem wp_ald {ok : FieldType → Bool} {a : Nat} {j : Int32} (hc : rc mid pc = some (i, 1)) (hr : ∀ st, am_ret i st = none) (hcl : ∀ st, am_call i st = none) (hi : ∀ st, am_step d i 1 pc ls st h = am_nx pc 1 ls h (am_ald ok h st)) (ho : okA ok h a j) : wp d mid pc ls (.int j :: .ref a :: st) h Q ↔ wp d mid (pc + 1) ls (arr h a j :: st) h Q := by
  obtain ⟨ty, vs, h1, h2, h3, h4⟩ := ho
  refine wp_step hc (hr _) (hcl _) ?_
  rw [hi]
  have e : vs[j.toNatClampNeg]? = some (vs.getD j.toNatClampNeg .null) := by
    rw [List.getD_eq_getElem?_getD, List.getElem?_eq_getElem h4]
    rfl
  unfold am_ald arr
  rw [h1]
  dsimp only
  rw [if_pos ⟨h2, h3⟩, e]
  rfl
theorem wp_len {a : Nat} (hc : rc mid pc = some (.arraylength, 1)) (ho : isA h a) : wp d mid pc ls (.ref a :: st) h Q ↔ wp d mid (pc + 1) ls (.int (Int32.ofNat (alen h a)) :: st) h Q := by
  obtain ⟨ty, vs, h1⟩ := ho
  refine wp_step hc rfl rfl ?_
  unfold am_step alen
  dsimp only
  rw [h1]
  rfl
theorem am_ast_eq {ok : FieldType → Bool} {a : Nat} {j : Int32} {v : FieldType → Value} {w : Value} (ho : okA ok h a j) (hs : sN ≤ a) (hv : ∀ ty, ok ty = true → v ty = w) : am_ast ok h a j v = some (hast h a j w) := by
  obtain ⟨ty, vs, h1, h2, h3, h4⟩ := ho
  unfold am_ast hast
  rw [h1]
  dsimp only
  rw [if_pos ⟨h2, h3, h4, hs⟩, hv ty h2]
theorem wp_iast {a : Nat} {j x : Int32} (hc : rc mid pc = some (.iastore, 1)) (ho : okA am_isI h a j) (hs : sN ≤ a) : wp d mid pc ls (.int x :: .int j :: .ref a :: st) h Q ↔ wp d mid (pc + 1) ls st (hast h a j (.int x)) Q := by
  refine wp_step hc rfl rfl ?_
  show am_as pc 1 ls st (am_ast am_isI h a j (fun _ => .int x)) = _
  rw [am_ast_eq ho hs (fun _ _ => rfl)]
  rfl
theorem wp_last {a : Nat} {j : Int32} {x : Int64} (hc : rc mid pc = some (.lastore, 1)) (ho : okA am_isJ h a j) (hs : sN ≤ a) : wp d mid pc ls (.long x :: .int j :: .ref a :: st) h Q ↔ wp d mid (pc + 1) ls st (hast h a j (.long x)) Q := by
  refine wp_step hc rfl rfl ?_
  show am_as pc 1 ls st (am_ast am_isJ h a j (fun _ => .long x)) = _
  rw [am_ast_eq ho hs (fun _ _ => rfl)]
  rfl
theorem wp_cast {a : Nat} {j x : Int32} (hc : rc mid pc = some (.castore, 1)) (ho : okA am_isC h a j) (hs : sN ≤ a) : wp d mid pc ls (.int x :: .int j :: .ref a :: st) h Q ↔ wp d mid (pc + 1) ls st (hast h a j (narrow .char (.int x))) Q := by
  refine wp_step hc rfl rfl ?_
  show am_as pc 1 ls st (am_ast am_isC h a j (fun ty => narrow ty (.int x))) = _
  rw [am_ast_eq (w := narrow .char (.int x)) ho hs (fun ty hty => by cases ty <;> first | rfl | cases hty)]
  rfl
theorem wp_aast {a x ci : Nat} {fs : List Value} {j : Int32} (hc : rc mid pc = some (.aastore, 1)) (hx : h[x]? = some (.inr ci, fs)) (ho : okA (fun ty => decide (ty = .object (cN ci))) h a j) (hs : sN ≤ a) : wp d mid pc ls (.ref x :: .int j :: .ref a :: st) h Q ↔ wp d mid (pc + 1) ls st (hast h a j (.ref x)) Q := by
  refine wp_step hc rfl rfl ?_
  unfold am_step
  dsimp only
  rw [hx]
  dsimp only
  rw [am_ast_eq ho hs (fun _ _ => rfl)]
  rfl
theorem wp_newa {t : ArrayType} {n : Int32} (hc : rc mid pc = some (.newarray t, 2)) (hn : ¬ n < 0) (hb : n.toNatClampNeg * componentBytes (newarray.typeOf t) ≤ 536870912) : wp d mid pc ls (.int n :: st) h Q ↔ wp d mid (pc + 2) ls (.ref h.length :: st) (h ++ [(.inl (newarray.typeOf t), List.replicate n.toNatClampNeg (defaultValue (newarray.typeOf t)))]) Q := by
  refine wp_step hc rfl rfl ?_
  unfold am_step
  dsimp only
  rw [if_pos ⟨hn, hb⟩]
theorem wp_anew {ci : Nat} {n : Int32} (hc : rc mid pc = some (.anewarray ci, 3)) (hn : ¬ n < 0) (hb : n.toNatClampNeg * 4 ≤ 536870912) : wp d mid pc ls (.int n :: st) h Q ↔ wp d mid (pc + 3) ls (.ref h.length :: st) (h ++ [(.inl (.object (cN ci)), List.replicate n.toNatClampNeg .null)]) Q := by
  refine wp_step hc rfl rfl ?_
  unfold am_step
  dsimp only
  rw [if_pos ⟨hn, hb⟩]
theorem wp_div {x y : Int32} (hc : rc mid pc = some (.idiv, 1)) (hy : ¬ y = 0) : wp d mid pc ls (.int y :: .int x :: st) h Q ↔ wp d mid (pc + 1) ls (.int (x / y) :: st) h Q := by
  refine wp_step hc rfl rfl ?_
  show am_nx pc 1 ls h (am_iid _ (.int y :: .int x :: st)) = _
  unfold am_iid
  dsimp only
  rw [if_neg hy]
  rfl
theorem wp_rem {x y : Int32} (hc : rc mid pc = some (.irem, 1)) (hy : ¬ y = 0) : wp d mid pc ls (.int y :: .int x :: st) h Q ↔ wp d mid (pc + 1) ls (.int (x - x / y * y) :: st) h Q := by
  refine wp_step hc rfl rfl ?_
  show am_nx pc 1 ls h (am_iid _ (.int y :: .int x :: st)) = _
  unfold am_iid
  dsimp only
  rw [if_neg hy]
  rfl
theorem wp_ldiv {x y : Int64} (hc : rc mid pc = some (.ldiv, 1)) (hy : ¬ y = 0) : wp d mid pc ls (.long y :: .long x :: st) h Q ↔ wp d mid (pc + 1) ls (.long (x / y) :: st) h Q := by
  refine wp_step hc rfl rfl ?_
  show am_nx pc 1 ls h (am_lld _ (.long y :: .long x :: st)) = _
  unfold am_lld
  dsimp only
  rw [if_neg hy]
  rfl
theorem wp_lrem {x y : Int64} (hc : rc mid pc = some (.lrem, 1)) (hy : ¬ y = 0) : wp d mid pc ls (.long y :: .long x :: st) h Q ↔ wp d mid (pc + 1) ls (.long (x - x / y * y) :: st) h Q := by
  refine wp_step hc rfl rfl ?_
  show am_nx pc 1 ls h (am_lld _ (.long y :: .long x :: st)) = _
  unfold am_lld
  dsimp only
  rw [if_neg hy]
  rfl
theorem wp_if {kc : ClassFile.Cond} {t : Int} {x : Int32} {P : Prop} (inst : Decidable P) (hc : rc mid pc = some (.ifCond kc t, 3)) (hP : am_c1 kc x = decide P) : wp d mid pc ls (.int x :: st) h Q ↔ if P then wp d mid t.toNat ls st h Q else wp d mid (pc + 3) ls st h Q := by
  refine (wp_step hc rfl rfl (pc' := if am_c1 kc x = true then t.toNat else pc + 3) (ls' := ls) (st' := st) (h' := h) rfl).trans ?_
  rw [hP]
  by_cases h : P <;> simp [h]
theorem wp_ic {kc : ClassFile.Cond} {t : Int} {x y : Int32} {P : Prop} (inst : Decidable P) (hc : rc mid pc = some (.if_icmp kc t, 3)) (hP : am_c2 kc x y = decide P) : wp d mid pc ls (.int y :: .int x :: st) h Q ↔ if P then wp d mid t.toNat ls st h Q else wp d mid (pc + 3) ls st h Q := by
  refine (wp_step hc rfl rfl (pc' := if am_c2 kc x y = true then t.toNat else pc + 3) (ls' := ls) (st' := st) (h' := h) rfl).trans ?_
  rw [hP]
  by_cases h : P <;> simp [h]
theorem wp_obj {a : Nat} (hc : rc mid pc = some (.monitorenter, 3)) (hs : am_cat st ≤ 8) : wp (d + 1) mid pc ls (.ref a :: st) h Q ↔ wp (d + 1) mid (pc + 3) ls st h Q := by
  refine wp_step hc rfl rfl ?_
  unfold am_step
  dsimp only
  rw [if_pos ⟨by omega, hs⟩]
theorem wp_cpy {a b : Nat} {n dp sp : Int32} {ty : FieldType} {f g : List Value} (hc : rc mid pc = some (.monitorexit, 3)) (ha : h[a]? = some (.inl ty, f)) (hb : h[b]? = some (.inl ty, g)) (hst : am_cat st ≤ 8) (hp : am_prim ty = true) (h1 : ¬ n < 0) (h2 : ¬ dp < 0) (h3 : ¬ sp < 0) (h4 : sp.toNatClampNeg + n.toNatClampNeg ≤ f.length) (h5 : dp.toNatClampNeg + n.toNatClampNeg ≤ g.length) (hs : sN ≤ b) :
    wp (d + 1) mid pc ls (.int n :: .int dp :: .ref b :: .int sp :: .ref a :: st) h Q ↔ wp (d + 1) mid (pc + 3) ls st (h.set b (.inl ty, am_cp f g sp.toNatClampNeg dp.toNatClampNeg n.toNatClampNeg)) Q := by
  refine wp_step hc rfl rfl ?_
  show am_nh pc 3 ls (am_copy (d + 1) h _) = _
  unfold am_copy
  dsimp only
  rw [ha, hb]
  dsimp only
  rw [if_pos ⟨by omega, hst, rfl, hp, h1, h2, h3, h4, h5, hs⟩]
  rfl
end WP
end
