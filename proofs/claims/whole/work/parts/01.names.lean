/-- a private method of a class that the tables say can be made, by its rows of tables_1 -/
def lw_okq (q : MethodName × Nat) : Prop := (q.1.cls ≠ "java/lang/invoke/MethodHandle" ∧ q.1.cls ≠ "java/lang/invoke/VarHandle") ∧ Cond.instantiable q.1.cls q.2 ∈ tables_1 ∧ Cond.privateMethod q.1 ∈ tables_1 ∧ Cond.instanceMethod q.1 ∈ tables_1
theorem lw_p0 : lw_okq (⟨"SandMandalas$Memory", "circleRow", "(I)I"⟩, 4) := ⟨⟨by decide +kernel, by decide +kernel⟩, List.mem_of_getElem? (i := 60) (by decide +kernel), List.mem_of_getElem? (i := 116) (by decide +kernel), List.mem_of_getElem? (i := 117) (by decide +kernel)⟩
theorem lw_p1 : lw_okq (⟨"SandMandalas$Breath", "rememberRing", "(LSandMandalas$State;II)V"⟩, 3) := ⟨⟨by decide +kernel, by decide +kernel⟩, List.mem_of_getElem? (i := 44) (by decide +kernel), List.mem_of_getElem? (i := 256) (by decide +kernel), List.mem_of_getElem? (i := 257) (by decide +kernel)⟩
theorem lw_p2 : lw_okq (⟨"SandMandalas$Breath", "overPlace", "(LSandMandalas$State;IIII)I"⟩, 3) := ⟨⟨by decide +kernel, by decide +kernel⟩, List.mem_of_getElem? (i := 44) (by decide +kernel), List.mem_of_getElem? (i := 262) (by decide +kernel), List.mem_of_getElem? (i := 263) (by decide +kernel)⟩
theorem lw_p3 : lw_okq (⟨"SandMandalas$Pad", "addSign", "(I)V"⟩, 2) := ⟨⟨by decide +kernel, by decide +kernel⟩, List.mem_of_getElem? (i := 79) (by decide +kernel), List.mem_of_getElem? (i := 459) (by decide +kernel), List.mem_of_getElem? (i := 460) (by decide +kernel)⟩
theorem lw_p4 : lw_okq (⟨"SandMandalasModel", "hold", "()V"⟩, 13) := ⟨⟨by decide +kernel, by decide +kernel⟩, List.mem_of_getElem? (i := 619) (by decide +kernel), List.mem_of_getElem? (i := 674) (by decide +kernel), List.mem_of_getElem? (i := 675) (by decide +kernel)⟩
theorem lw_p5 : lw_okq (⟨"SandMandalasModel", "recorded", "(I)I"⟩, 13) := ⟨⟨by decide +kernel, by decide +kernel⟩, List.mem_of_getElem? (i := 619) (by decide +kernel), List.mem_of_getElem? (i := 678) (by decide +kernel), List.mem_of_getElem? (i := 679) (by decide +kernel)⟩
theorem lw_p6 : lw_okq (⟨"SandMandalasModel", "patterns", "(II)I"⟩, 13) := ⟨⟨by decide +kernel, by decide +kernel⟩, List.mem_of_getElem? (i := 619) (by decide +kernel), List.mem_of_getElem? (i := 686) (by decide +kernel), List.mem_of_getElem? (i := 687) (by decide +kernel)⟩
theorem lw_p7 : lw_okq (⟨"SandMandalasModel", "isOpen", "(I)Z"⟩, 13) := ⟨⟨by decide +kernel, by decide +kernel⟩, List.mem_of_getElem? (i := 619) (by decide +kernel), List.mem_of_getElem? (i := 694) (by decide +kernel), List.mem_of_getElem? (i := 695) (by decide +kernel)⟩
theorem lw_p8 : lw_okq (⟨"SandMandalasModel", "takes", "(II)I"⟩, 13) := ⟨⟨by decide +kernel, by decide +kernel⟩, List.mem_of_getElem? (i := 619) (by decide +kernel), List.mem_of_getElem? (i := 702) (by decide +kernel), List.mem_of_getElem? (i := 703) (by decide +kernel)⟩
theorem lw_p9 : lw_okq (⟨"SandMandalasModel", "holder", "(I)I"⟩, 13) := ⟨⟨by decide +kernel, by decide +kernel⟩, List.mem_of_getElem? (i := 619) (by decide +kernel), List.mem_of_getElem? (i := 709) (by decide +kernel), List.mem_of_getElem? (i := 710) (by decide +kernel)⟩
theorem lw_p10 : lw_okq (⟨"SandMandalasModel", "pours", "(IIII)I"⟩, 13) := ⟨⟨by decide +kernel, by decide +kernel⟩, List.mem_of_getElem? (i := 619) (by decide +kernel), List.mem_of_getElem? (i := 724) (by decide +kernel), List.mem_of_getElem? (i := 725) (by decide +kernel)⟩
theorem lw_p11 : lw_okq (⟨"SandMandalasModel", "puts", "(III)V"⟩, 13) := ⟨⟨by decide +kernel, by decide +kernel⟩, List.mem_of_getElem? (i := 619) (by decide +kernel), List.mem_of_getElem? (i := 734) (by decide +kernel), List.mem_of_getElem? (i := 735) (by decide +kernel)⟩
theorem lw_p12 : lw_okq (⟨"SandMandalasModel", "scrapes", "(III)I"⟩, 13) := ⟨⟨by decide +kernel, by decide +kernel⟩, List.mem_of_getElem? (i := 619) (by decide +kernel), List.mem_of_getElem? (i := 742) (by decide +kernel), List.mem_of_getElem? (i := 743) (by decide +kernel)⟩
theorem lw_p13 : lw_okq (⟨"SandMandalasModel", "breathes", "(II)I"⟩, 13) := ⟨⟨by decide +kernel, by decide +kernel⟩, List.mem_of_getElem? (i := 619) (by decide +kernel), List.mem_of_getElem? (i := 750) (by decide +kernel), List.mem_of_getElem? (i := 751) (by decide +kernel)⟩
theorem lw_p14 : lw_okq (⟨"SandMandalasModel", "ringBreath", "(III)I"⟩, 13) := ⟨⟨by decide +kernel, by decide +kernel⟩, List.mem_of_getElem? (i := 619) (by decide +kernel), List.mem_of_getElem? (i := 754) (by decide +kernel), List.mem_of_getElem? (i := 755) (by decide +kernel)⟩
theorem lw_p15 : lw_okq (⟨"SandMandalasModel", "spills", "(I)I"⟩, 13) := ⟨⟨by decide +kernel, by decide +kernel⟩, List.mem_of_getElem? (i := 619) (by decide +kernel), List.mem_of_getElem? (i := 758) (by decide +kernel), List.mem_of_getElem? (i := 759) (by decide +kernel)⟩
def lw_privs_1 : List (MethodName × Nat) := [(⟨"SandMandalas$Memory", "circleRow", "(I)I"⟩, 4), (⟨"SandMandalas$Breath", "rememberRing", "(LSandMandalas$State;II)V"⟩, 3), (⟨"SandMandalas$Breath", "overPlace", "(LSandMandalas$State;IIII)I"⟩, 3), (⟨"SandMandalas$Pad", "addSign", "(I)V"⟩, 2), (⟨"SandMandalasModel", "hold", "()V"⟩, 13), (⟨"SandMandalasModel", "recorded", "(I)I"⟩, 13), (⟨"SandMandalasModel", "patterns", "(II)I"⟩, 13), (⟨"SandMandalasModel", "isOpen", "(I)Z"⟩, 13), (⟨"SandMandalasModel", "takes", "(II)I"⟩, 13), (⟨"SandMandalasModel", "holder", "(I)I"⟩, 13), (⟨"SandMandalasModel", "pours", "(IIII)I"⟩, 13), (⟨"SandMandalasModel", "puts", "(III)V"⟩, 13), (⟨"SandMandalasModel", "scrapes", "(III)I"⟩, 13), (⟨"SandMandalasModel", "breathes", "(II)I"⟩, 13), (⟨"SandMandalasModel", "ringBreath", "(III)I"⟩, 13), (⟨"SandMandalasModel", "spills", "(I)I"⟩, 13)]
theorem lw_r1 : ∀ q ∈ lw_privs_1, lw_okq q := List.forall_mem_cons.mpr ⟨lw_p0, List.forall_mem_cons.mpr ⟨lw_p1, List.forall_mem_cons.mpr ⟨lw_p2, List.forall_mem_cons.mpr ⟨lw_p3, List.forall_mem_cons.mpr ⟨lw_p4, List.forall_mem_cons.mpr ⟨lw_p5, List.forall_mem_cons.mpr ⟨lw_p6, List.forall_mem_cons.mpr ⟨lw_p7, List.forall_mem_cons.mpr ⟨lw_p8, List.forall_mem_cons.mpr ⟨lw_p9, List.forall_mem_cons.mpr ⟨lw_p10, List.forall_mem_cons.mpr ⟨lw_p11, List.forall_mem_cons.mpr ⟨lw_p12, List.forall_mem_cons.mpr ⟨lw_p13, List.forall_mem_cons.mpr ⟨lw_p14, List.forall_mem_cons.mpr ⟨lw_p15, fun _ h => absurd h List.not_mem_nil⟩⟩⟩⟩⟩⟩⟩⟩⟩⟩⟩⟩⟩⟩⟩⟩
theorem lw_p16 : lw_okq (⟨"SandMandalasModel", "closes", "()I"⟩, 13) := ⟨⟨by decide +kernel, by decide +kernel⟩, List.mem_of_getElem? (i := 619) (by decide +kernel), List.mem_of_getElem? (i := 766) (by decide +kernel), List.mem_of_getElem? (i := 767) (by decide +kernel)⟩
theorem lw_p17 : lw_okq (⟨"SandMandalasModel", "isWhole", "(I)Z"⟩, 13) := ⟨⟨by decide +kernel, by decide +kernel⟩, List.mem_of_getElem? (i := 619) (by decide +kernel), List.mem_of_getElem? (i := 770) (by decide +kernel), List.mem_of_getElem? (i := 771) (by decide +kernel)⟩
theorem lw_p18 : lw_okq (⟨"SandMandalasModel", "isRight", "(III)Z"⟩, 13) := ⟨⟨by decide +kernel, by decide +kernel⟩, List.mem_of_getElem? (i := 619) (by decide +kernel), List.mem_of_getElem? (i := 774) (by decide +kernel), List.mem_of_getElem? (i := 775) (by decide +kernel)⟩
theorem lw_p19 : lw_okq (⟨"SandMandalasModel", "wanted", "(III)I"⟩, 13) := ⟨⟨by decide +kernel, by decide +kernel⟩, List.mem_of_getElem? (i := 619) (by decide +kernel), List.mem_of_getElem? (i := 778) (by decide +kernel), List.mem_of_getElem? (i := 779) (by decide +kernel)⟩
theorem lw_p20 : lw_okq (⟨"SandMandalasModel", "mirrored", "(II)I"⟩, 13) := ⟨⟨by decide +kernel, by decide +kernel⟩, List.mem_of_getElem? (i := 619) (by decide +kernel), List.mem_of_getElem? (i := 782) (by decide +kernel), List.mem_of_getElem? (i := 783) (by decide +kernel)⟩
theorem lw_p21 : lw_okq (⟨"SandMandalasModel", "isMirrored", "(I)Z"⟩, 13) := ⟨⟨by decide +kernel, by decide +kernel⟩, List.mem_of_getElem? (i := 619) (by decide +kernel), List.mem_of_getElem? (i := 786) (by decide +kernel), List.mem_of_getElem? (i := 787) (by decide +kernel)⟩
theorem lw_p22 : lw_okq (⟨"SandMandalasModel", "sweeps", "()I"⟩, 13) := ⟨⟨by decide +kernel, by decide +kernel⟩, List.mem_of_getElem? (i := 619) (by decide +kernel), List.mem_of_getElem? (i := 794) (by decide +kernel), List.mem_of_getElem? (i := 795) (by decide +kernel)⟩
theorem lw_p23 : lw_okq (⟨"SandMandalasModel", "unlike", "(I)I"⟩, 13) := ⟨⟨by decide +kernel, by decide +kernel⟩, List.mem_of_getElem? (i := 619) (by decide +kernel), List.mem_of_getElem? (i := 809) (by decide +kernel), List.mem_of_getElem? (i := 810) (by decide +kernel)⟩
theorem lw_p24 : lw_okq (⟨"SandMandalasModel", "ofPlaces", "(II)I"⟩, 13) := ⟨⟨by decide +kernel, by decide +kernel⟩, List.mem_of_getElem? (i := 619) (by decide +kernel), List.mem_of_getElem? (i := 813) (by decide +kernel), List.mem_of_getElem? (i := 814) (by decide +kernel)⟩
theorem lw_p25 : lw_okq (⟨"SandMandalasModel", "missing", "(III)I"⟩, 13) := ⟨⟨by decide +kernel, by decide +kernel⟩, List.mem_of_getElem? (i := 619) (by decide +kernel), List.mem_of_getElem? (i := 817) (by decide +kernel), List.mem_of_getElem? (i := 818) (by decide +kernel)⟩
theorem lw_p26 : lw_okq (⟨"SandMandalasModel", "ofPlacesIn", "(II)I"⟩, 13) := ⟨⟨by decide +kernel, by decide +kernel⟩, List.mem_of_getElem? (i := 619) (by decide +kernel), List.mem_of_getElem? (i := 825) (by decide +kernel), List.mem_of_getElem? (i := 826) (by decide +kernel)⟩
theorem lw_p27 : lw_okq (⟨"SandMandalasModel", "isSwept", "(I)Z"⟩, 13) := ⟨⟨by decide +kernel, by decide +kernel⟩, List.mem_of_getElem? (i := 619) (by decide +kernel), List.mem_of_getElem? (i := 829) (by decide +kernel), List.mem_of_getElem? (i := 830) (by decide +kernel)⟩
theorem lw_p28 : lw_okq (⟨"SandMandalasModel", "ofAll", "(II)I"⟩, 13) := ⟨⟨by decide +kernel, by decide +kernel⟩, List.mem_of_getElem? (i := 619) (by decide +kernel), List.mem_of_getElem? (i := 837) (by decide +kernel), List.mem_of_getElem? (i := 838) (by decide +kernel)⟩
theorem lw_p29 : lw_okq (⟨"SandMandalasModel", "grains", "()I"⟩, 13) := ⟨⟨by decide +kernel, by decide +kernel⟩, List.mem_of_getElem? (i := 619) (by decide +kernel), List.mem_of_getElem? (i := 845) (by decide +kernel), List.mem_of_getElem? (i := 846) (by decide +kernel)⟩
theorem lw_p30 : lw_okq (⟨"SandMandalasModel", "whole", "()I"⟩, 13) := ⟨⟨by decide +kernel, by decide +kernel⟩, List.mem_of_getElem? (i := 619) (by decide +kernel), List.mem_of_getElem? (i := 849) (by decide +kernel), List.mem_of_getElem? (i := 850) (by decide +kernel)⟩
theorem lw_p31 : lw_okq (⟨"SandMandalasModel", "keepTrial", "()V"⟩, 13) := ⟨⟨by decide +kernel, by decide +kernel⟩, List.mem_of_getElem? (i := 619) (by decide +kernel), List.mem_of_getElem? (i := 865) (by decide +kernel), List.mem_of_getElem? (i := 866) (by decide +kernel)⟩
def lw_privs_2 : List (MethodName × Nat) := [(⟨"SandMandalasModel", "closes", "()I"⟩, 13), (⟨"SandMandalasModel", "isWhole", "(I)Z"⟩, 13), (⟨"SandMandalasModel", "isRight", "(III)Z"⟩, 13), (⟨"SandMandalasModel", "wanted", "(III)I"⟩, 13), (⟨"SandMandalasModel", "mirrored", "(II)I"⟩, 13), (⟨"SandMandalasModel", "isMirrored", "(I)Z"⟩, 13), (⟨"SandMandalasModel", "sweeps", "()I"⟩, 13), (⟨"SandMandalasModel", "unlike", "(I)I"⟩, 13), (⟨"SandMandalasModel", "ofPlaces", "(II)I"⟩, 13), (⟨"SandMandalasModel", "missing", "(III)I"⟩, 13), (⟨"SandMandalasModel", "ofPlacesIn", "(II)I"⟩, 13), (⟨"SandMandalasModel", "isSwept", "(I)Z"⟩, 13), (⟨"SandMandalasModel", "ofAll", "(II)I"⟩, 13), (⟨"SandMandalasModel", "grains", "()I"⟩, 13), (⟨"SandMandalasModel", "whole", "()I"⟩, 13), (⟨"SandMandalasModel", "keepTrial", "()V"⟩, 13)]
theorem lw_r2 : ∀ q ∈ lw_privs_2, lw_okq q := List.forall_mem_cons.mpr ⟨lw_p16, List.forall_mem_cons.mpr ⟨lw_p17, List.forall_mem_cons.mpr ⟨lw_p18, List.forall_mem_cons.mpr ⟨lw_p19, List.forall_mem_cons.mpr ⟨lw_p20, List.forall_mem_cons.mpr ⟨lw_p21, List.forall_mem_cons.mpr ⟨lw_p22, List.forall_mem_cons.mpr ⟨lw_p23, List.forall_mem_cons.mpr ⟨lw_p24, List.forall_mem_cons.mpr ⟨lw_p25, List.forall_mem_cons.mpr ⟨lw_p26, List.forall_mem_cons.mpr ⟨lw_p27, List.forall_mem_cons.mpr ⟨lw_p28, List.forall_mem_cons.mpr ⟨lw_p29, List.forall_mem_cons.mpr ⟨lw_p30, List.forall_mem_cons.mpr ⟨lw_p31, fun _ h => absurd h List.not_mem_nil⟩⟩⟩⟩⟩⟩⟩⟩⟩⟩⟩⟩⟩⟩⟩⟩
theorem lw_p32 : lw_okq (⟨"SandMandalasModel", "turned", "(IIIZZ)I"⟩, 13) := ⟨⟨by decide +kernel, by decide +kernel⟩, List.mem_of_getElem? (i := 619) (by decide +kernel), List.mem_of_getElem? (i := 869) (by decide +kernel), List.mem_of_getElem? (i := 870) (by decide +kernel)⟩
theorem lw_p33 : lw_okq (⟨"SandMandalasModel", "putBack", "()V"⟩, 13) := ⟨⟨by decide +kernel, by decide +kernel⟩, List.mem_of_getElem? (i := 619) (by decide +kernel), List.mem_of_getElem? (i := 873) (by decide +kernel), List.mem_of_getElem? (i := 874) (by decide +kernel)⟩
theorem lw_p34 : lw_okq (⟨"SandMandalasModel", "changes", "(II)Z"⟩, 13) := ⟨⟨by decide +kernel, by decide +kernel⟩, List.mem_of_getElem? (i := 619) (by decide +kernel), List.mem_of_getElem? (i := 881) (by decide +kernel), List.mem_of_getElem? (i := 882) (by decide +kernel)⟩
theorem lw_p35 : lw_okq (⟨"SandMandalasModel", "faultOf", "()I"⟩, 13) := ⟨⟨by decide +kernel, by decide +kernel⟩, List.mem_of_getElem? (i := 619) (by decide +kernel), List.mem_of_getElem? (i := 904) (by decide +kernel), List.mem_of_getElem? (i := 905) (by decide +kernel)⟩
theorem lw_p36 : lw_okq (⟨"SandMandalasModel", "readsOrder", "()Z"⟩, 13) := ⟨⟨by decide +kernel, by decide +kernel⟩, List.mem_of_getElem? (i := 619) (by decide +kernel), List.mem_of_getElem? (i := 908) (by decide +kernel), List.mem_of_getElem? (i := 909) (by decide +kernel)⟩
theorem lw_p37 : lw_okq (⟨"SandMandalasModel", "accepts", "(C)Z"⟩, 13) := ⟨⟨by decide +kernel, by decide +kernel⟩, List.mem_of_getElem? (i := 619) (by decide +kernel), List.mem_of_getElem? (i := 912) (by decide +kernel), List.mem_of_getElem? (i := 913) (by decide +kernel)⟩
theorem lw_p38 : lw_okq (⟨"SandMandalasModel", "isSign", "(CC)Z"⟩, 13) := ⟨⟨by decide +kernel, by decide +kernel⟩, List.mem_of_getElem? (i := 619) (by decide +kernel), List.mem_of_getElem? (i := 916) (by decide +kernel), List.mem_of_getElem? (i := 917) (by decide +kernel)⟩
theorem lw_p39 : lw_okq (⟨"SandMandalasModel", "digit", "(ICC)Z"⟩, 13) := ⟨⟨by decide +kernel, by decide +kernel⟩, List.mem_of_getElem? (i := 619) (by decide +kernel), List.mem_of_getElem? (i := 920) (by decide +kernel), List.mem_of_getElem? (i := 921) (by decide +kernel)⟩
theorem lw_p40 : lw_okq (⟨"SandMandalasModel", "number", "(I)Z"⟩, 13) := ⟨⟨by decide +kernel, by decide +kernel⟩, List.mem_of_getElem? (i := 619) (by decide +kernel), List.mem_of_getElem? (i := 924) (by decide +kernel), List.mem_of_getElem? (i := 925) (by decide +kernel)⟩
theorem lw_p41 : lw_okq (⟨"SandMandalasModel", "colours", "()Z"⟩, 13) := ⟨⟨by decide +kernel, by decide +kernel⟩, List.mem_of_getElem? (i := 619) (by decide +kernel), List.mem_of_getElem? (i := 928) (by decide +kernel), List.mem_of_getElem? (i := 929) (by decide +kernel)⟩
theorem lw_p42 : lw_okq (⟨"SandMandalasModel", "direction", "()Z"⟩, 13) := ⟨⟨by decide +kernel, by decide +kernel⟩, List.mem_of_getElem? (i := 619) (by decide +kernel), List.mem_of_getElem? (i := 932) (by decide +kernel), List.mem_of_getElem? (i := 933) (by decide +kernel)⟩
theorem lw_p43 : lw_okq (⟨"SandMandalasModel", "does", "(I)I"⟩, 13) := ⟨⟨by decide +kernel, by decide +kernel⟩, List.mem_of_getElem? (i := 619) (by decide +kernel), List.mem_of_getElem? (i := 940) (by decide +kernel), List.mem_of_getElem? (i := 941) (by decide +kernel)⟩
def lw_privs_3 : List (MethodName × Nat) := [(⟨"SandMandalasModel", "turned", "(IIIZZ)I"⟩, 13), (⟨"SandMandalasModel", "putBack", "()V"⟩, 13), (⟨"SandMandalasModel", "changes", "(II)Z"⟩, 13), (⟨"SandMandalasModel", "faultOf", "()I"⟩, 13), (⟨"SandMandalasModel", "readsOrder", "()Z"⟩, 13), (⟨"SandMandalasModel", "accepts", "(C)Z"⟩, 13), (⟨"SandMandalasModel", "isSign", "(CC)Z"⟩, 13), (⟨"SandMandalasModel", "digit", "(ICC)Z"⟩, 13), (⟨"SandMandalasModel", "number", "(I)Z"⟩, 13), (⟨"SandMandalasModel", "colours", "()Z"⟩, 13), (⟨"SandMandalasModel", "direction", "()Z"⟩, 13), (⟨"SandMandalasModel", "does", "(I)I"⟩, 13)]
theorem lw_r3 : ∀ q ∈ lw_privs_3, lw_okq q := List.forall_mem_cons.mpr ⟨lw_p32, List.forall_mem_cons.mpr ⟨lw_p33, List.forall_mem_cons.mpr ⟨lw_p34, List.forall_mem_cons.mpr ⟨lw_p35, List.forall_mem_cons.mpr ⟨lw_p36, List.forall_mem_cons.mpr ⟨lw_p37, List.forall_mem_cons.mpr ⟨lw_p38, List.forall_mem_cons.mpr ⟨lw_p39, List.forall_mem_cons.mpr ⟨lw_p40, List.forall_mem_cons.mpr ⟨lw_p41, List.forall_mem_cons.mpr ⟨lw_p42, List.forall_mem_cons.mpr ⟨lw_p43, fun _ h => absurd h List.not_mem_nil⟩⟩⟩⟩⟩⟩⟩⟩⟩⟩⟩⟩
def lw_privs : List (MethodName × Nat) := lw_privs_1 ++ (lw_privs_2 ++ (lw_privs_3))
def lw_tbl : List Cond := k2_sels lw_privs ++ tables_1
theorem lw_privs_ok : ∀ q ∈ lw_privs, lw_okq q := by
  show ∀ q ∈ lw_privs_1 ++ (lw_privs_2 ++ (lw_privs_3)), lw_okq q
  exact List.forall_mem_append.mpr ⟨lw_r1, List.forall_mem_append.mpr ⟨lw_r2, lw_r3⟩⟩
def RX0 : String := "SandMandalas$Breath"
def TX0 : u_T := fun k => match k with
  | 0 => ("SandMandalas$Breath", "grainsBefore", "[I", true)
  | 1 => ("SandMandalas$Breath", "coloursBefore", "[I", true)
  | _ => ("SandMandalas$Breath", "changed", "Z", false)
def tyX0 : Nat → FieldType := fun k => match k with
  | 0 => .array .int
  | 1 => .array .int
  | _ => .boolean
abbrev wsX00 : List Cond := u_ws RX0 TX0 3
theorem nmX0 : ∀ a, a < 3 → ∀ b, b < 3 → a ≠ b → (TX0 a).2.1 ≠ (TX0 b).2.1 := by decide +kernel
theorem tyX0_ok : ∀ k, k < 3 → parseFieldDescriptor (TX0 k).2.2.1 = some (tyX0 k) := by decide +kernel
abbrev cX0_init : ByteArray := prog_2_method_1_code
def yX0_init : MethodName := ⟨RX0, "<init>", "()V"⟩
abbrev cX0_over : ByteArray := prog_2_method_2_code
def yX0_over : MethodName := ⟨RX0, "over", "(LSandMandalas$State;II)I"⟩
abbrev cX0_changedSomething : ByteArray := prog_2_method_3_code
def yX0_changedSomething : MethodName := ⟨RX0, "changedSomething", "()Z"⟩
abbrev cX0_rememberRing : ByteArray := prog_2_method_4_code
def yX0_rememberRing : MethodName := ⟨RX0, "rememberRing", "(LSandMandalas$State;II)V"⟩
abbrev cX0_overPlace : ByteArray := prog_2_method_5_code
def yX0_overPlace : MethodName := ⟨RX0, "overPlace", "(LSandMandalas$State;IIII)I"⟩
abbrev cX0_remembered : ByteArray := prog_2_method_6_code
def yX0_remembered : MethodName := ⟨RX0, "remembered", "([II)I"⟩
abbrev cX0_spilled : ByteArray := prog_2_method_7_code
def yX0_spilled : MethodName := ⟨RX0, "spilled", "(II)I"⟩
def RX1 : String := "SandMandalas$Changes"
def TX1 : u_T := fun k => match k with
  | _ => ("", "", "", false)
def tyX1 : Nat → FieldType := fun k => match k with
  | _ => .int
abbrev wsX10 : List Cond := u_ws RX1 TX1 0
theorem nmX1 : ∀ a, a < 0 → ∀ b, b < 0 → a ≠ b → (TX1 a).2.1 ≠ (TX1 b).2.1 := by decide +kernel
theorem tyX1_ok : ∀ k, k < 0 → parseFieldDescriptor (TX1 k).2.2.1 = some (tyX1 k) := by decide +kernel
abbrev cX1_quarterOfTurn : ByteArray := prog_3_method_2_code
def yX1_quarterOfTurn : MethodName := ⟨RX1, "quarterOfTurn", "(I)I"⟩
abbrev cX1_changeSetting : ByteArray := prog_3_method_3_code
def yX1_changeSetting : MethodName := ⟨RX1, "changeSetting", "(LSandMandalas$State;II)I"⟩
abbrev cX1_isSettingValue : ByteArray := prog_3_method_4_code
def yX1_isSettingValue : MethodName := ⟨RX1, "isSettingValue", "(II)Z"⟩
abbrev cX1_layPattern : ByteArray := prog_3_method_5_code
def yX1_layPattern : MethodName := ⟨RX1, "layPattern", "(LSandMandalas$State;II)I"⟩
abbrev cX1_isColourRow : ByteArray := prog_3_method_6_code
def yX1_isColourRow : MethodName := ⟨RX1, "isColourRow", "(I)Z"⟩
abbrev cX1_takeFunnel : ByteArray := prog_3_method_7_code
def yX1_takeFunnel : MethodName := ⟨RX1, "takeFunnel", "(LSandMandalas$State;II)I"⟩
abbrev cX1_fillFunnel : ByteArray := prog_3_method_8_code
def yX1_fillFunnel : MethodName := ⟨RX1, "fillFunnel", "(LSandMandalas$State;II)I"⟩
abbrev cX1_pourGrains : ByteArray := prog_3_method_9_code
def yX1_pourGrains : MethodName := ⟨RX1, "pourGrains", "(LSandMandalas$State;IIII)I"⟩
abbrev cX1_scrapeBare : ByteArray := prog_3_method_10_code
def yX1_scrapeBare : MethodName := ⟨RX1, "scrapeBare", "(LSandMandalas$State;III)I"⟩
abbrev cX1_blow : ByteArray := prog_3_method_11_code
def yX1_blow : MethodName := ⟨RX1, "blow", "(LSandMandalas$State;LSandMandalas$Breath;II)I"⟩
abbrev cX1_closeRing : ByteArray := prog_3_method_12_code
def yX1_closeRing : MethodName := ⟨RX1, "closeRing", "(LSandMandalas$State;)I"⟩
abbrev cX1_sweepQuarter : ByteArray := prog_3_method_13_code
def yX1_sweepQuarter : MethodName := ⟨RX1, "sweepQuarter", "(LSandMandalas$State;)I"⟩
abbrev cX1_beginAnew : ByteArray := prog_3_method_14_code
def yX1_beginAnew : MethodName := ⟨RX1, "beginAnew", "(LSandMandalas$State;)V"⟩
def RX2 : String := "SandMandalas$Memory"
def TX2 : u_T := fun k => match k with
  | 0 => ("SandMandalas$Memory", "rows", "[I", true)
  | 1 => ("SandMandalas$Memory", "oldest", "I", false)
  | 2 => ("SandMandalas$Memory", "kept", "I", false)
  | _ => ("SandMandalas$Memory", "savedSlots", "I", false)
def tyX2 : Nat → FieldType := fun k => match k with
  | 0 => .array .int
  | 1 => .int
  | 2 => .int
  | _ => .int
abbrev wsX20 : List Cond := u_ws RX2 TX2 4
theorem nmX2 : ∀ a, a < 4 → ∀ b, b < 4 → a ≠ b → (TX2 a).2.1 ≠ (TX2 b).2.1 := by decide +kernel
theorem tyX2_ok : ∀ k, k < 4 → parseFieldDescriptor (TX2 k).2.2.1 = some (tyX2 k) := by decide +kernel
abbrev cX2_init : ByteArray := prog_4_method_1_code
def yX2_init : MethodName := ⟨RX2, "<init>", "()V"⟩
abbrev cX2_undoable : ByteArray := prog_4_method_2_code
def yX2_undoable : MethodName := ⟨RX2, "undoable", "()I"⟩
abbrev cX2_stage : ByteArray := prog_4_method_3_code
def yX2_stage : MethodName := ⟨RX2, "stage", "(LSandMandalas$State;)V"⟩
abbrev cX2_recordUnlessError : ByteArray := prog_4_method_4_code
def yX2_recordUnlessError : MethodName := ⟨RX2, "recordUnlessError", "(I)I"⟩
abbrev cX2_goBack : ByteArray := prog_4_method_5_code
def yX2_goBack : MethodName := ⟨RX2, "goBack", "(LSandMandalas$State;)I"⟩
abbrev cX2_circleRow : ByteArray := prog_4_method_6_code
def yX2_circleRow : MethodName := ⟨RX2, "circleRow", "(I)I"⟩
abbrev cX2_isSlot : ByteArray := prog_4_method_7_code
def yX2_isSlot : MethodName := ⟨RX2, "isSlot", "(I)Z"⟩
abbrev cX2_isSaved : ByteArray := prog_4_method_8_code
def yX2_isSaved : MethodName := ⟨RX2, "isSaved", "(I)Z"⟩
abbrev cX2_keepInSlot : ByteArray := prog_4_method_9_code
def yX2_keepInSlot : MethodName := ⟨RX2, "keepInSlot", "(ILSandMandalas$State;)V"⟩
abbrev cX2_bringFromSlot : ByteArray := prog_4_method_10_code
def yX2_bringFromSlot : MethodName := ⟨RX2, "bringFromSlot", "(ILSandMandalas$State;)V"⟩
abbrev cX2_slotRow : ByteArray := prog_4_method_11_code
def yX2_slotRow : MethodName := ⟨RX2, "slotRow", "(I)I"⟩
def RX3 : String := "SandMandalas$Orders"
def TX3 : u_T := fun k => match k with
  | _ => ("", "", "", false)
def tyX3 : Nat → FieldType := fun k => match k with
  | _ => .int
abbrev wsX30 : List Cond := u_ws RX3 TX3 0
theorem nmX3 : ∀ a, a < 0 → ∀ b, b < 0 → a ≠ b → (TX3 a).2.1 ≠ (TX3 b).2.1 := by decide +kernel
theorem tyX3_ok : ∀ k, k < 0 → parseFieldDescriptor (TX3 k).2.2.1 = some (tyX3 k) := by decide +kernel
abbrev cX3_firstFault : ByteArray := prog_5_method_2_code
def yX3_firstFault : MethodName := ⟨RX3, "firstFault", "(LSandMandalas$Pad;)I"⟩
abbrev cX3_shapeOf : ByteArray := prog_5_method_3_code
def yX3_shapeOf : MethodName := ⟨RX3, "shapeOf", "(I)Ljava/lang/String;"⟩
abbrev cX3_fits : ByteArray := prog_5_method_4_code
def yX3_fits : MethodName := ⟨RX3, "fits", "(II)Z"⟩
abbrev cX3_isDigit : ByteArray := prog_5_method_5_code
def yX3_isDigit : MethodName := ⟨RX3, "isDigit", "(I)Z"⟩
abbrev cX3_hasSecondDigit : ByteArray := prog_5_method_6_code
def yX3_hasSecondDigit : MethodName := ⟨RX3, "hasSecondDigit", "(LSandMandalas$Pad;I)Z"⟩
abbrev cX3_beginsAt : ByteArray := prog_5_method_7_code
def yX3_beginsAt : MethodName := ⟨RX3, "beginsAt", "(LSandMandalas$Pad;I)Z"⟩
abbrev cX3_obey : ByteArray := prog_5_method_8_code
def yX3_obey : MethodName := ⟨RX3, "obey", "(LSandMandalas$Pad;ILSandMandalas$State;LSandMandalas$Breath;)I"⟩
abbrev cX3_digit : ByteArray := prog_5_method_9_code
def yX3_digit : MethodName := ⟨RX3, "digit", "(LSandMandalas$Pad;I)I"⟩
abbrev cX3_numberAt : ByteArray := prog_5_method_10_code
def yX3_numberAt : MethodName := ⟨RX3, "numberAt", "(LSandMandalas$Pad;I)I"⟩
abbrev cX3_colourRow : ByteArray := prog_5_method_11_code
def yX3_colourRow : MethodName := ⟨RX3, "colourRow", "(LSandMandalas$Pad;I)I"⟩
def RX4 : String := "SandMandalas$Pad"
def TX4 : u_T := fun k => match k with
  | 0 => ("SandMandalas$Pad", "signs", "[I", true)
  | _ => ("SandMandalas$Pad", "length", "I", false)
def tyX4 : Nat → FieldType := fun k => match k with
  | 0 => .array .int
  | _ => .int
abbrev wsX40 : List Cond := u_ws RX4 TX4 2
theorem nmX4 : ∀ a, a < 2 → ∀ b, b < 2 → a ≠ b → (TX4 a).2.1 ≠ (TX4 b).2.1 := by decide +kernel
theorem tyX4_ok : ∀ k, k < 2 → parseFieldDescriptor (TX4 k).2.2.1 = some (tyX4 k) := by decide +kernel
abbrev cX4_init : ByteArray := prog_6_method_1_code
def yX4_init : MethodName := ⟨RX4, "<init>", "()V"⟩
abbrev cX4_length : ByteArray := prog_6_method_2_code
def yX4_length : MethodName := ⟨RX4, "length", "()I"⟩
abbrev cX4_empty : ByteArray := prog_6_method_3_code
def yX4_empty : MethodName := ⟨RX4, "empty", "()V"⟩
abbrev cX4_sign : ByteArray := prog_6_method_4_code
def yX4_sign : MethodName := ⟨RX4, "sign", "(I)I"⟩
abbrev cX4_append : ByteArray := prog_6_method_5_code
def yX4_append : MethodName := ⟨RX4, "append", "(J)I"⟩
abbrev cX4_amountOf : ByteArray := prog_6_method_6_code
def yX4_amountOf : MethodName := ⟨RX4, "amountOf", "(J)I"⟩
abbrev cX4_addSign : ByteArray := prog_6_method_7_code
def yX4_addSign : MethodName := ⟨RX4, "addSign", "(I)V"⟩
def RX5 : String := "SandMandalas$State"
def TX5 : u_T := fun k => match k with
  | _ => ("SandMandalas$State", "cells", "[I", true)
def tyX5 : Nat → FieldType := fun k => match k with
  | _ => .array .int
abbrev wsX50 : List Cond := u_ws RX5 TX5 1
theorem nmX5 : ∀ a, a < 1 → ∀ b, b < 1 → a ≠ b → (TX5 a).2.1 ≠ (TX5 b).2.1 := by decide +kernel
theorem tyX5_ok : ∀ k, k < 1 → parseFieldDescriptor (TX5 k).2.2.1 = some (tyX5 k) := by decide +kernel
abbrev cX5_init : ByteArray := prog_7_method_1_code
def yX5_init : MethodName := ⟨RX5, "<init>", "()V"⟩
abbrev cX5_number : ByteArray := prog_7_method_2_code
def yX5_number : MethodName := ⟨RX5, "number", "(I)I"⟩
abbrev cX5_lay : ByteArray := prog_7_method_3_code
def yX5_lay : MethodName := ⟨RX5, "lay", "(II)V"⟩
abbrev cX5_raise : ByteArray := prog_7_method_4_code
def yX5_raise : MethodName := ⟨RX5, "raise", "(II)V"⟩
abbrev cX5_copyFrom : ByteArray := prog_7_method_5_code
def yX5_copyFrom : MethodName := ⟨RX5, "copyFrom", "(LSandMandalas$State;)V"⟩
abbrev cX5_copyInto : ByteArray := prog_7_method_6_code
def yX5_copyInto : MethodName := ⟨RX5, "copyInto", "([II)V"⟩
abbrev cX5_copyOutOf : ByteArray := prog_7_method_7_code
def yX5_copyOutOf : MethodName := ⟨RX5, "copyOutOf", "([II)V"⟩
abbrev cX5_setting : ByteArray := prog_7_method_8_code
def yX5_setting : MethodName := ⟨RX5, "setting", "(I)I"⟩
abbrev cX5_hasPattern : ByteArray := prog_7_method_9_code
def yX5_hasPattern : MethodName := ⟨RX5, "hasPattern", "(I)Z"⟩
abbrev cX5_dropPatterns : ByteArray := prog_7_method_10_code
def yX5_dropPatterns : MethodName := ⟨RX5, "dropPatterns", "()V"⟩
abbrev cX5_funnel : ByteArray := prog_7_method_11_code
def yX5_funnel : MethodName := ⟨RX5, "funnel", "(I)I"⟩
abbrev cX5_heldBy : ByteArray := prog_7_method_12_code
def yX5_heldBy : MethodName := ⟨RX5, "heldBy", "(I)I"⟩
abbrev cX5_holderOf : ByteArray := prog_7_method_13_code
def yX5_holderOf : MethodName := ⟨RX5, "holderOf", "(I)I"⟩
abbrev cX5_isClosed : ByteArray := prog_7_method_14_code
def yX5_isClosed : MethodName := ⟨RX5, "isClosed", "(I)Z"⟩
abbrev cX5_isSwept : ByteArray := prog_7_method_15_code
def yX5_isSwept : MethodName := ⟨RX5, "isSwept", "(I)Z"⟩
abbrev cX5_grains : ByteArray := prog_7_method_16_code
def yX5_grains : MethodName := ⟨RX5, "grains", "(III)I"⟩
abbrev cX5_colour : ByteArray := prog_7_method_17_code
def yX5_colour : MethodName := ⟨RX5, "colour", "(III)I"⟩
abbrev cX5_heap : ByteArray := prog_7_method_18_code
def yX5_heap : MethodName := ⟨RX5, "heap", "(IIIII)V"⟩
abbrev cX5_patternPlace : ByteArray := prog_7_method_19_code
def yX5_patternPlace : MethodName := ⟨RX5, "patternPlace", "(II)I"⟩
abbrev cX5_isMirrored : ByteArray := prog_7_method_20_code
def yX5_isMirrored : MethodName := ⟨RX5, "isMirrored", "(I)Z"⟩
abbrev cX5_wanted : ByteArray := prog_7_method_21_code
def yX5_wanted : MethodName := ⟨RX5, "wanted", "(III)I"⟩
abbrev cX5_isRight : ByteArray := prog_7_method_22_code
def yX5_isRight : MethodName := ⟨RX5, "isRight", "(III)Z"⟩
abbrev cX5_missing : ByteArray := prog_7_method_23_code
def yX5_missing : MethodName := ⟨RX5, "missing", "(III)I"⟩
def RX6 : String := "SandMandalas$Survey"
def TX6 : u_T := fun k => match k with
  | _ => ("", "", "", false)
def tyX6 : Nat → FieldType := fun k => match k with
  | _ => .int
abbrev wsX60 : List Cond := u_ws RX6 TX6 0
theorem nmX6 : ∀ a, a < 0 → ∀ b, b < 0 → a ≠ b → (TX6 a).2.1 ≠ (TX6 b).2.1 := by decide +kernel
theorem tyX6_ok : ∀ k, k < 0 → parseFieldDescriptor (TX6 k).2.2.1 = some (tyX6 k) := by decide +kernel
abbrev cX6_tally : ByteArray := prog_8_method_2_code
def yX6_tally : MethodName := ⟨RX6, "tally", "(LSandMandalas$State;IIII)I"⟩
abbrev cX6_matches : ByteArray := prog_8_method_3_code
def yX6_matches : MethodName := ⟨RX6, "matches", "(II)Z"⟩
abbrev cX6_measured : ByteArray := prog_8_method_4_code
def yX6_measured : MethodName := ⟨RX6, "measured", "(LSandMandalas$State;IIIII)I"⟩
abbrev cX6_isWhole : ByteArray := prog_8_method_5_code
def yX6_isWhole : MethodName := ⟨RX6, "isWhole", "(LSandMandalas$State;I)Z"⟩
abbrev cX6_wholeRings : ByteArray := prog_8_method_6_code
def yX6_wholeRings : MethodName := ⟨RX6, "wholeRings", "(LSandMandalas$State;)I"⟩
abbrev cX6_unlikePlaces : ByteArray := prog_8_method_7_code
def yX6_unlikePlaces : MethodName := ⟨RX6, "unlikePlaces", "(LSandMandalas$State;I)I"⟩
abbrev cX6_isUnlike : ByteArray := prog_8_method_8_code
def yX6_isUnlike : MethodName := ⟨RX6, "isUnlike", "(LSandMandalas$State;II)Z"⟩
abbrev cX6_neediest : ByteArray := prog_8_method_9_code
def yX6_neediest : MethodName := ⟨RX6, "neediest", "(LSandMandalas$State;)I"⟩
abbrev cX6_canBePoured : ByteArray := prog_8_method_10_code
def yX6_canBePoured : MethodName := ⟨RX6, "canBePoured", "(LSandMandalas$State;III)Z"⟩
abbrev cX6_rightOnlyInFirst : ByteArray := prog_8_method_11_code
def yX6_rightOnlyInFirst : MethodName := ⟨RX6, "rightOnlyInFirst", "(LSandMandalas$State;LSandMandalas$State;I)I"⟩
def RX7 : String := "SandMandalas"
def TX7 : u_T := fun k => match k with
  | 0 => ("SandMandalas", "state", "LSandMandalas$State;", true)
  | 1 => ("SandMandalas", "trial", "LSandMandalas$State;", true)
  | 2 => ("SandMandalas", "breath", "LSandMandalas$Breath;", true)
  | 3 => ("SandMandalas", "memory", "LSandMandalas$Memory;", true)
  | _ => ("SandMandalas", "pad", "LSandMandalas$Pad;", true)
def tyX7 : Nat → FieldType := fun k => match k with
  | 0 => .object "SandMandalas$State"
  | 1 => .object "SandMandalas$State"
  | 2 => .object "SandMandalas$Breath"
  | 3 => .object "SandMandalas$Memory"
  | _ => .object "SandMandalas$Pad"
abbrev wsX70 : List Cond := u_ws RX7 TX7 5
theorem nmX7 : ∀ a, a < 5 → ∀ b, b < 5 → a ≠ b → (TX7 a).2.1 ≠ (TX7 b).2.1 := by decide +kernel
theorem tyX7_ok : ∀ k, k < 5 → parseFieldDescriptor (TX7 k).2.2.1 = some (tyX7 k) := by decide +kernel
abbrev cX7_init : ByteArray := prog_1_method_1_code
def yX7_init : MethodName := ⟨RX7, "<init>", "()V"⟩
abbrev cX7_set : ByteArray := prog_1_method_2_code
def yX7_set : MethodName := ⟨RX7, "set", "(II)I"⟩
abbrev cX7_pattern : ByteArray := prog_1_method_3_code
def yX7_pattern : MethodName := ⟨RX7, "pattern", "(II)I"⟩
abbrev cX7_take : ByteArray := prog_1_method_4_code
def yX7_take : MethodName := ⟨RX7, "take", "(II)I"⟩
abbrev cX7_fill : ByteArray := prog_1_method_5_code
def yX7_fill : MethodName := ⟨RX7, "fill", "(II)I"⟩
abbrev cX7_pour : ByteArray := prog_1_method_6_code
def yX7_pour : MethodName := ⟨RX7, "pour", "(IIII)I"⟩
abbrev cX7_scrape : ByteArray := prog_1_method_7_code
def yX7_scrape : MethodName := ⟨RX7, "scrape", "(III)I"⟩
abbrev cX7_breathe : ByteArray := prog_1_method_8_code
def yX7_breathe : MethodName := ⟨RX7, "breathe", "(II)I"⟩
abbrev cX7_close : ByteArray := prog_1_method_9_code
def yX7_close : MethodName := ⟨RX7, "close", "()I"⟩
abbrev cX7_sweep : ByteArray := prog_1_method_10_code
def yX7_sweep : MethodName := ⟨RX7, "sweep", "()I"⟩
abbrev cX7_at : ByteArray := prog_1_method_11_code
def yX7_at : MethodName := ⟨RX7, "at", "(IIII)I"⟩
abbrev cX7_ofRing : ByteArray := prog_1_method_12_code
def yX7_ofRing : MethodName := ⟨RX7, "ofRing", "(II)I"⟩
abbrev cX7_ofQuarter : ByteArray := prog_1_method_13_code
def yX7_ofQuarter : MethodName := ⟨RX7, "ofQuarter", "(II)I"⟩
abbrev cX7_ofColour : ByteArray := prog_1_method_14_code
def yX7_ofColour : MethodName := ⟨RX7, "ofColour", "(II)I"⟩
abbrev cX7_count : ByteArray := prog_1_method_15_code
def yX7_count : MethodName := ⟨RX7, "count", "(I)I"⟩
abbrev cX7_needed : ByteArray := prog_1_method_16_code
def yX7_needed : MethodName := ⟨RX7, "needed", "(I)I"⟩
abbrev cX7_lacking : ByteArray := prog_1_method_17_code
def yX7_lacking : MethodName := ⟨RX7, "lacking", "()I"⟩
abbrev cX7_ifBreathed : ByteArray := prog_1_method_18_code
def yX7_ifBreathed : MethodName := ⟨RX7, "ifBreathed", "(III)I"⟩
abbrev cX7_settles : ByteArray := prog_1_method_19_code
def yX7_settles : MethodName := ⟨RX7, "settles", "(II)I"⟩
abbrev cX7_best : ByteArray := prog_1_method_20_code
def yX7_best : MethodName := ⟨RX7, "best", "()I"⟩
abbrev cX7_put : ByteArray := prog_1_method_21_code
def yX7_put : MethodName := ⟨RX7, "put", "(J)I"⟩
abbrev cX7_wipe : ByteArray := prog_1_method_22_code
def yX7_wipe : MethodName := ⟨RX7, "wipe", "()I"⟩
abbrev cX7_fault : ByteArray := prog_1_method_23_code
def yX7_fault : MethodName := ⟨RX7, "fault", "()I"⟩
abbrev cX7_carryOut : ByteArray := prog_1_method_24_code
def yX7_carryOut : MethodName := ⟨RX7, "carryOut", "()I"⟩
abbrev cX7_undo : ByteArray := prog_1_method_25_code
def yX7_undo : MethodName := ⟨RX7, "undo", "()I"⟩
abbrev cX7_save : ByteArray := prog_1_method_26_code
def yX7_save : MethodName := ⟨RX7, "save", "(I)I"⟩
abbrev cX7_restore : ByteArray := prog_1_method_27_code
def yX7_restore : MethodName := ⟨RX7, "restore", "(I)I"⟩
abbrev cX7_isQuarter : ByteArray := prog_1_method_28_code
def yX7_isQuarter : MethodName := ⟨RX7, "isQuarter", "(I)Z"⟩
abbrev cX7_isRing : ByteArray := prog_1_method_29_code
def yX7_isRing : MethodName := ⟨RX7, "isRing", "(I)Z"⟩
abbrev cX7_isPlace : ByteArray := prog_1_method_30_code
def yX7_isPlace : MethodName := ⟨RX7, "isPlace", "(III)Z"⟩
abbrev cX7_isColour : ByteArray := prog_1_method_31_code
def yX7_isColour : MethodName := ⟨RX7, "isColour", "(I)Z"⟩
abbrev cX7_isDirection : ByteArray := prog_1_method_32_code
def yX7_isDirection : MethodName := ⟨RX7, "isDirection", "(I)Z"⟩
abbrev cX7_bit : ByteArray := prog_1_method_33_code
def yX7_bit : MethodName := ⟨RX7, "bit", "(Z)I"⟩
def RX8 : String := "SandMandalasModel"
def TX8 : u_T := fun k => match k with
  | 0 => ("SandMandalasModel", "s", "[I", true)
  | 1 => ("SandMandalasModel", "spare", "[I", true)
  | 2 => ("SandMandalasModel", "trial", "[I", true)
  | 3 => ("SandMandalasModel", "before", "[I", true)
  | 4 => ("SandMandalasModel", "saved", "[I", true)
  | 5 => ("SandMandalasModel", "isSaved", "[Z", true)
  | 6 => ("SandMandalasModel", "ahead", "[I", true)
  | 7 => ("SandMandalasModel", "read", "[I", true)
  | 8 => ("SandMandalasModel", "pad", "[C", true)
  | 9 => ("SandMandalasModel", "length", "I", false)
  | 10 => ("SandMandalasModel", "states", "I", false)
  | 11 => ("SandMandalasModel", "orders", "I", false)
  | _ => ("SandMandalasModel", "at", "I", false)
def tyX8 : Nat → FieldType := fun k => match k with
  | 0 => .array .int
  | 1 => .array .int
  | 2 => .array .int
  | 3 => .array .int
  | 4 => .array .int
  | 5 => .array .boolean
  | 6 => .array .int
  | 7 => .array .int
  | 8 => .array .char
  | 9 => .int
  | 10 => .int
  | 11 => .int
  | _ => .int
abbrev wsX80 : List Cond := u_ws RX8 TX8 13
theorem nmX8 : ∀ a, a < 13 → ∀ b, b < 13 → a ≠ b → (TX8 a).2.1 ≠ (TX8 b).2.1 := by decide +kernel
theorem tyX8_ok : ∀ k, k < 13 → parseFieldDescriptor (TX8 k).2.2.1 = some (tyX8 k) := by decide +kernel
abbrev cX8_init : ByteArray := prog_10_method_1_code
def yX8_init : MethodName := ⟨RX8, "<init>", "()V"⟩
abbrev cX8_in : ByteArray := prog_10_method_2_code
def yX8_in : MethodName := ⟨RX8, "in", "(III)Z"⟩
abbrev cX8_p : ByteArray := prog_10_method_3_code
def yX8_p : MethodName := ⟨RX8, "p", "(III)I"⟩
abbrev cX8_isQuarter : ByteArray := prog_10_method_4_code
def yX8_isQuarter : MethodName := ⟨RX8, "isQuarter", "(I)Z"⟩
abbrev cX8_isRing : ByteArray := prog_10_method_5_code
def yX8_isRing : MethodName := ⟨RX8, "isRing", "(I)Z"⟩
abbrev cX8_isColour : ByteArray := prog_10_method_6_code
def yX8_isColour : MethodName := ⟨RX8, "isColour", "(I)Z"⟩
abbrev cX8_isPlace : ByteArray := prog_10_method_7_code
def yX8_isPlace : MethodName := ⟨RX8, "isPlace", "(III)Z"⟩
abbrev cX8_hold : ByteArray := prog_10_method_8_code
def yX8_hold : MethodName := ⟨RX8, "hold", "()V"⟩
abbrev cX8_recorded : ByteArray := prog_10_method_9_code
def yX8_recorded : MethodName := ⟨RX8, "recorded", "(I)I"⟩
abbrev cX8_keepTrial : ByteArray := prog_10_method_10_code
def yX8_keepTrial : MethodName := ⟨RX8, "keepTrial", "()V"⟩
abbrev cX8_putBack : ByteArray := prog_10_method_11_code
def yX8_putBack : MethodName := ⟨RX8, "putBack", "()V"⟩
abbrev cX8_isMirrored : ByteArray := prog_10_method_12_code
def yX8_isMirrored : MethodName := ⟨RX8, "isMirrored", "(I)Z"⟩
abbrev cX8_mirrored : ByteArray := prog_10_method_13_code
def yX8_mirrored : MethodName := ⟨RX8, "mirrored", "(II)I"⟩
abbrev cX8_wanted : ByteArray := prog_10_method_14_code
def yX8_wanted : MethodName := ⟨RX8, "wanted", "(III)I"⟩
abbrev cX8_isRight : ByteArray := prog_10_method_15_code
def yX8_isRight : MethodName := ⟨RX8, "isRight", "(III)Z"⟩
abbrev cX8_missing : ByteArray := prog_10_method_16_code
def yX8_missing : MethodName := ⟨RX8, "missing", "(III)I"⟩
abbrev cX8_isWhole : ByteArray := prog_10_method_17_code
def yX8_isWhole : MethodName := ⟨RX8, "isWhole", "(I)Z"⟩
abbrev cX8_isOpen : ByteArray := prog_10_method_18_code
def yX8_isOpen : MethodName := ⟨RX8, "isOpen", "(I)Z"⟩
abbrev cX8_puts : ByteArray := prog_10_method_19_code
def yX8_puts : MethodName := ⟨RX8, "puts", "(III)V"⟩
abbrev cX8_patterns : ByteArray := prog_10_method_20_code
def yX8_patterns : MethodName := ⟨RX8, "patterns", "(II)I"⟩
abbrev cX8_holder : ByteArray := prog_10_method_21_code
def yX8_holder : MethodName := ⟨RX8, "holder", "(I)I"⟩
abbrev cX8_takes : ByteArray := prog_10_method_22_code
def yX8_takes : MethodName := ⟨RX8, "takes", "(II)I"⟩
abbrev cX8_pours : ByteArray := prog_10_method_23_code
def yX8_pours : MethodName := ⟨RX8, "pours", "(IIII)I"⟩
abbrev cX8_scrapes : ByteArray := prog_10_method_24_code
def yX8_scrapes : MethodName := ⟨RX8, "scrapes", "(III)I"⟩
abbrev cX8_spills : ByteArray := prog_10_method_25_code
def yX8_spills : MethodName := ⟨RX8, "spills", "(I)I"⟩
abbrev cX8_ringBreath : ByteArray := prog_10_method_26_code
def yX8_ringBreath : MethodName := ⟨RX8, "ringBreath", "(III)I"⟩
abbrev cX8_breathes : ByteArray := prog_10_method_27_code
def yX8_breathes : MethodName := ⟨RX8, "breathes", "(II)I"⟩
abbrev cX8_closes : ByteArray := prog_10_method_28_code
def yX8_closes : MethodName := ⟨RX8, "closes", "()I"⟩
abbrev cX8_swept : ByteArray := prog_10_method_29_code
def yX8_swept : MethodName := ⟨RX8, "swept", "(I)I"⟩
abbrev cX8_sweeps : ByteArray := prog_10_method_30_code
def yX8_sweeps : MethodName := ⟨RX8, "sweeps", "()I"⟩
abbrev cX8_set : ByteArray := prog_10_method_31_code
def yX8_set : MethodName := ⟨RX8, "set", "(II)I"⟩
abbrev cX8_pattern : ByteArray := prog_10_method_32_code
def yX8_pattern : MethodName := ⟨RX8, "pattern", "(II)I"⟩
abbrev cX8_take : ByteArray := prog_10_method_33_code
def yX8_take : MethodName := ⟨RX8, "take", "(II)I"⟩
abbrev cX8_fill : ByteArray := prog_10_method_34_code
def yX8_fill : MethodName := ⟨RX8, "fill", "(II)I"⟩
abbrev cX8_pour : ByteArray := prog_10_method_35_code
def yX8_pour : MethodName := ⟨RX8, "pour", "(IIII)I"⟩
abbrev cX8_scrape : ByteArray := prog_10_method_36_code
def yX8_scrape : MethodName := ⟨RX8, "scrape", "(III)I"⟩
abbrev cX8_breathe : ByteArray := prog_10_method_37_code
def yX8_breathe : MethodName := ⟨RX8, "breathe", "(II)I"⟩
abbrev cX8_close : ByteArray := prog_10_method_38_code
def yX8_close : MethodName := ⟨RX8, "close", "()I"⟩
abbrev cX8_sweep : ByteArray := prog_10_method_39_code
def yX8_sweep : MethodName := ⟨RX8, "sweep", "()I"⟩
abbrev cX8_at : ByteArray := prog_10_method_40_code
def yX8_at : MethodName := ⟨RX8, "at", "(IIII)I"⟩
abbrev cX8_unlike : ByteArray := prog_10_method_41_code
def yX8_unlike : MethodName := ⟨RX8, "unlike", "(I)I"⟩
abbrev cX8_ofPlaces : ByteArray := prog_10_method_42_code
def yX8_ofPlaces : MethodName := ⟨RX8, "ofPlaces", "(II)I"⟩
abbrev cX8_ofRing : ByteArray := prog_10_method_43_code
def yX8_ofRing : MethodName := ⟨RX8, "ofRing", "(II)I"⟩
abbrev cX8_ofPlacesIn : ByteArray := prog_10_method_44_code
def yX8_ofPlacesIn : MethodName := ⟨RX8, "ofPlacesIn", "(II)I"⟩
abbrev cX8_isSwept : ByteArray := prog_10_method_45_code
def yX8_isSwept : MethodName := ⟨RX8, "isSwept", "(I)Z"⟩
abbrev cX8_ofQuarter : ByteArray := prog_10_method_46_code
def yX8_ofQuarter : MethodName := ⟨RX8, "ofQuarter", "(II)I"⟩
abbrev cX8_ofAll : ByteArray := prog_10_method_47_code
def yX8_ofAll : MethodName := ⟨RX8, "ofAll", "(II)I"⟩
abbrev cX8_ofColour : ByteArray := prog_10_method_48_code
def yX8_ofColour : MethodName := ⟨RX8, "ofColour", "(II)I"⟩
abbrev cX8_grains : ByteArray := prog_10_method_49_code
def yX8_grains : MethodName := ⟨RX8, "grains", "()I"⟩
abbrev cX8_whole : ByteArray := prog_10_method_50_code
def yX8_whole : MethodName := ⟨RX8, "whole", "()I"⟩
abbrev cX8_count : ByteArray := prog_10_method_51_code
def yX8_count : MethodName := ⟨RX8, "count", "(I)I"⟩
abbrev cX8_needed : ByteArray := prog_10_method_52_code
def yX8_needed : MethodName := ⟨RX8, "needed", "(I)I"⟩
abbrev cX8_lacking : ByteArray := prog_10_method_53_code
def yX8_lacking : MethodName := ⟨RX8, "lacking", "()I"⟩
abbrev cX8_turned : ByteArray := prog_10_method_54_code
def yX8_turned : MethodName := ⟨RX8, "turned", "(IIIZZ)I"⟩
abbrev cX8_ifBreathed : ByteArray := prog_10_method_55_code
def yX8_ifBreathed : MethodName := ⟨RX8, "ifBreathed", "(III)I"⟩
abbrev cX8_changes : ByteArray := prog_10_method_56_code
def yX8_changes : MethodName := ⟨RX8, "changes", "(II)Z"⟩
abbrev cX8_settles : ByteArray := prog_10_method_57_code
def yX8_settles : MethodName := ⟨RX8, "settles", "(II)I"⟩
abbrev cX8_best : ByteArray := prog_10_method_58_code
def yX8_best : MethodName := ⟨RX8, "best", "()I"⟩
abbrev cX8_isSign : ByteArray := prog_10_method_59_code
def yX8_isSign : MethodName := ⟨RX8, "isSign", "(CC)Z"⟩
abbrev cX8_accepts : ByteArray := prog_10_method_60_code
def yX8_accepts : MethodName := ⟨RX8, "accepts", "(C)Z"⟩
abbrev cX8_digit : ByteArray := prog_10_method_61_code
def yX8_digit : MethodName := ⟨RX8, "digit", "(ICC)Z"⟩
abbrev cX8_number : ByteArray := prog_10_method_62_code
def yX8_number : MethodName := ⟨RX8, "number", "(I)Z"⟩
abbrev cX8_colours : ByteArray := prog_10_method_63_code
def yX8_colours : MethodName := ⟨RX8, "colours", "()Z"⟩
abbrev cX8_direction : ByteArray := prog_10_method_64_code
def yX8_direction : MethodName := ⟨RX8, "direction", "()Z"⟩
abbrev cX8_readsOrder : ByteArray := prog_10_method_65_code
def yX8_readsOrder : MethodName := ⟨RX8, "readsOrder", "()Z"⟩
abbrev cX8_faultOf : ByteArray := prog_10_method_66_code
def yX8_faultOf : MethodName := ⟨RX8, "faultOf", "()I"⟩
abbrev cX8_does : ByteArray := prog_10_method_67_code
def yX8_does : MethodName := ⟨RX8, "does", "(I)I"⟩
abbrev cX8_put : ByteArray := prog_10_method_68_code
def yX8_put : MethodName := ⟨RX8, "put", "(J)I"⟩
abbrev cX8_wipe : ByteArray := prog_10_method_69_code
def yX8_wipe : MethodName := ⟨RX8, "wipe", "()I"⟩
abbrev cX8_fault : ByteArray := prog_10_method_70_code
def yX8_fault : MethodName := ⟨RX8, "fault", "()I"⟩
abbrev cX8_carryOut : ByteArray := prog_10_method_71_code
def yX8_carryOut : MethodName := ⟨RX8, "carryOut", "()I"⟩
abbrev cX8_undo : ByteArray := prog_10_method_72_code
def yX8_undo : MethodName := ⟨RX8, "undo", "()I"⟩
abbrev cX8_save : ByteArray := prog_10_method_73_code
def yX8_save : MethodName := ⟨RX8, "save", "(I)I"⟩
abbrev cX8_restore : ByteArray := prog_10_method_74_code
def yX8_restore : MethodName := ⟨RX8, "restore", "(I)I"⟩
def RJ9 : String := "java/lang/Math"
def TJ9 : u_T := fun k => match k with
  | _ => ("", "", "", false)
def tyJ9 : Nat → FieldType := fun k => match k with
  | _ => .int
abbrev wsJ90 : List Cond := u_ws RJ9 TJ9 0
theorem nmJ9 : ∀ a, a < 0 → ∀ b, b < 0 → a ≠ b → (TJ9 a).2.1 ≠ (TJ9 b).2.1 := by decide +kernel
theorem tyJ9_ok : ∀ k, k < 0 → parseFieldDescriptor (TJ9 k).2.2.1 = some (tyJ9 k) := by decide +kernel
abbrev cJ9_max_7cf53 : ByteArray := prog_11_method_65_code
def yJ9_max_7cf53 : MethodName := ⟨RJ9, "max", "(II)I"⟩
abbrev cJ9_min_7cf53 : ByteArray := prog_11_method_69_code
def yJ9_min_7cf53 : MethodName := ⟨RJ9, "min", "(II)I"⟩
def RJ0 : String := "java/lang/String"
def TJ0 : u_T := fun k => match k with
  | _ => ("", "", "", false)
def tyJ0 : Nat → FieldType := fun k => match k with
  | _ => .int
abbrev wsJ00 : List Cond := u_ws RJ0 TJ0 0
theorem nmJ0 : ∀ a, a < 0 → ∀ b, b < 0 → a ≠ b → (TJ0 a).2.1 ≠ (TJ0 b).2.1 := by decide +kernel
theorem tyJ0_ok : ∀ k, k < 0 → parseFieldDescriptor (TJ0 k).2.2.1 = some (tyJ0 k) := by decide +kernel
abbrev cJ0_length_8abf5 : ByteArray := prog_12_method_54_code
def yJ0_length_8abf5 : MethodName := ⟨RJ0, "length", "()I"⟩
abbrev cJ0_isEmpty_aae02 : ByteArray := prog_12_method_55_code
def yJ0_isEmpty_aae02 : MethodName := ⟨RJ0, "isEmpty", "()Z"⟩
abbrev cJ0_charAt_5068e : ByteArray := prog_12_method_56_code
def yJ0_charAt_5068e : MethodName := ⟨RJ0, "charAt", "(I)C"⟩
abbrev cJ0_coder_7d493 : ByteArray := prog_12_method_152_code
def yJ0_coder_7d493 : MethodName := ⟨RJ0, "coder", "()B"⟩
abbrev cJ0_isLatin1_aae02 : ByteArray := prog_12_method_154_code
def yJ0_isLatin1_aae02 : MethodName := ⟨RJ0, "isLatin1", "()Z"⟩
abbrev cJ0_checkIndex_df160 : ByteArray := prog_12_method_155_code
def yJ0_checkIndex_df160 : MethodName := ⟨RJ0, "checkIndex", "(II)V"⟩
def RJ1 : String := "java/lang/StringLatin1"
def TJ1 : u_T := fun k => match k with
  | _ => ("", "", "", false)
def tyJ1 : Nat → FieldType := fun k => match k with
  | _ => .int
abbrev wsJ10 : List Cond := u_ws RJ1 TJ1 0
theorem nmJ1 : ∀ a, a < 0 → ∀ b, b < 0 → a ≠ b → (TJ1 a).2.1 ≠ (TJ1 b).2.1 := by decide +kernel
theorem tyJ1_ok : ∀ k, k < 0 → parseFieldDescriptor (TJ1 k).2.2.1 = some (tyJ1 k) := by decide +kernel
abbrev cJ1_charAt_3b067 : ByteArray := prog_13_method_2_code
def yJ1_charAt_3b067 : MethodName := ⟨RJ1, "charAt", "([BI)C"⟩
def RJ2 : String := "java/lang/StringUTF16"
def TJ2 : u_T := fun k => match k with
  | _ => ("", "", "", false)
def tyJ2 : Nat → FieldType := fun k => match k with
  | _ => .int
abbrev wsJ20 : List Cond := u_ws RJ2 TJ2 0
theorem nmJ2 : ∀ a, a < 0 → ∀ b, b < 0 → a ≠ b → (TJ2 a).2.1 ≠ (TJ2 b).2.1 := by decide +kernel
theorem tyJ2_ok : ∀ k, k < 0 → parseFieldDescriptor (TJ2 k).2.2.1 = some (tyJ2 k) := by decide +kernel
abbrev cJ2_getChar_3b067 : ByteArray := prog_14_method_5_code
def yJ2_getChar_3b067 : MethodName := ⟨RJ2, "getChar", "([BI)C"⟩
abbrev cJ2_length_9d52b : ByteArray := prog_14_method_6_code
def yJ2_length_9d52b : MethodName := ⟨RJ2, "length", "([B)I"⟩
abbrev cJ2_charAt_3b067 : ByteArray := prog_14_method_83_code
def yJ2_charAt_3b067 : MethodName := ⟨RJ2, "charAt", "([BI)C"⟩
abbrev cJ2_checkIndex_2214a : ByteArray := prog_14_method_91_code
def yJ2_checkIndex_2214a : MethodName := ⟨RJ2, "checkIndex", "(I[B)V"⟩
def RJ10 : String := "java/lang/System"
def TJ10 : u_T := fun k => match k with
  | _ => ("", "", "", false)
def tyJ10 : Nat → FieldType := fun k => match k with
  | _ => .int
abbrev wsJ100 : List Cond := u_ws RJ10 TJ10 0
theorem nmJ10 : ∀ a, a < 0 → ∀ b, b < 0 → a ≠ b → (TJ10 a).2.1 ≠ (TJ10 b).2.1 := by decide +kernel
theorem tyJ10_ok : ∀ k, k < 0 → parseFieldDescriptor (TJ10 k).2.2.1 = some (tyJ10 k) := by decide +kernel
def RJ3 : String := "jdk/internal/util/Preconditions"
def TJ3 : u_T := fun k => match k with
  | _ => ("", "", "", false)
def tyJ3 : Nat → FieldType := fun k => match k with
  | _ => .int
abbrev wsJ30 : List Cond := u_ws RJ3 TJ3 0
theorem nmJ3 : ∀ a, a < 0 → ∀ b, b < 0 → a ≠ b → (TJ3 a).2.1 ≠ (TJ3 b).2.1 := by decide +kernel
theorem tyJ3_ok : ∀ k, k < 0 → parseFieldDescriptor (TJ3 k).2.2.1 = some (tyJ3 k) := by decide +kernel
abbrev cJ3_checkIndex_8e157 : ByteArray := prog_16_method_11_code
def yJ3_checkIndex_8e157 : MethodName := ⟨RJ3, "checkIndex", "(IILjava/util/function/BiFunction;)I"⟩
def RL : String := "SandMandalasLaw"
abbrev cL_law : ByteArray := code
def yL_law : MethodName := ⟨RL, "law", "([I)Z"⟩
abbrev vwCl : List vw_C := [(RX0, TX0, 3), (RX2, TX2, 4), (RX4, TX4, 2), (RX5, TX5, 1), (RX7, TX7, 5), (RX8, TX8, 13)]
theorem inX0 : ∀ w ∈ wsX00, w ∈ lw_tbl := by decide +kernel
theorem inX2 : ∀ w ∈ wsX20, w ∈ lw_tbl := by decide +kernel
theorem inX4 : ∀ w ∈ wsX40, w ∈ lw_tbl := by decide +kernel
theorem inX5 : ∀ w ∈ wsX50, w ∈ lw_tbl := by decide +kernel
theorem inX7 : ∀ w ∈ wsX70, w ∈ lw_tbl := by decide +kernel
theorem inX8 : ∀ w ∈ wsX80, w ∈ lw_tbl := by decide +kernel
