section
/-- a private method of a class that the tables say can be made, by its rows of tables_1 -/
def lw_okq (q : MethodName × Nat) : Prop := (q.1.cls ≠ "java/lang/invoke/MethodHandle" ∧ q.1.cls ≠ "java/lang/invoke/VarHandle") ∧ Cond.instantiable q.1.cls q.2 ∈ tables_1 ∧ Cond.privateMethod q.1 ∈ tables_1 ∧ Cond.instanceMethod q.1 ∈ tables_1
theorem lw_p0 : lw_okq (⟨"SandMandalas$Memory", "circleRow", "(I)I"⟩, 4) := ⟨⟨by decide +kernel, by decide +kernel⟩, List.mem_of_getElem? (i := 60) (by decide +kernel), List.mem_of_getElem? (i := 116) (by decide +kernel), List.mem_of_getElem? (i := 117) (by decide +kernel)⟩
theorem lw_p1 : lw_okq (⟨"SandMandalas$Breath", "rememberRing", "(LSandMandalas$State;II)V"⟩, 3) := ⟨⟨by decide +kernel, by decide +kernel⟩, List.mem_of_getElem? (i := 44) (by decide +kernel), List.mem_of_getElem? (i := 256) (by decide +kernel), List.mem_of_getElem? (i := 257) (by decide +kernel)⟩
theorem lw_p2 : lw_okq (⟨"SandMandalas$Breath", "overPlace", "(LSandMandalas$State;IIII)I"⟩, 3) := ⟨⟨by decide +kernel, by decide +kernel⟩, List.mem_of_getElem? (i := 44) (by decide +kernel), List.mem_of_getElem? (i := 262) (by decide +kernel), List.mem_of_getElem? (i := 263) (by decide +kernel)⟩
theorem lw_p3 : lw_okq (⟨"SandMandalas$Pad", "addSign", "(I)V"⟩, 2) := ⟨⟨by decide +kernel, by decide +kernel⟩, List.mem_of_getElem? (i := 79) (by decide +kernel), List.mem_of_getElem? (i := 459) (by decide +kernel), List.mem_of_getElem? (i := 460) (by decide +kernel)⟩
theorem lw_p4 : lw_okq (⟨"SandMandalasModel", "hold", "()V"⟩, 13) := ⟨⟨by decide +kernel, by decide +kernel⟩, List.mem_of_getElem? (i := 619) (by decide +kernel), List.mem_of_getElem? (i := 674) (by decide +kernel), List.mem_of_getElem? (i := 675) (by decide +kernel)⟩
theorem lw_p5 : lw_okq (⟨"SandMandalasModel", "recorded", "(I)I"⟩, 13) := ⟨⟨by decide +kernel, by decide +kernel⟩, List.mem_of_getElem? (i := 619) (by decide +kernel), List.mem_of_getElem? (i := 678) (by decide +kernel), List.mem_of_getElem? (i := 679) (by decide +kernel)⟩
theorem lw_p6 : lw_okq (⟨"SandMandalasModel", "patterns", "(II)I"⟩, 13) := ⟨⟨by decide +kernel, by decide +kernel⟩, List.mem_of_getElem? (i := 619) (by decide +kernel), List.mem_of_getElem? (i := 686) (by decide +kernel), List.mem_of_getElem? (i := 687) (by decide +kernel)⟩
theorem lw_p7 : lw_okq (⟨"SandMandalasModel", "isOpen", "(I)Z"⟩, 13) := ⟨⟨by decide +kernel, by decide +kernel⟩, List.mem_of_getElem? (i := 619) (by decide +kernel), List.mem_of_getElem? (i := 694) (by decide +kernel), List.mem_of_getElem? (i := 695) (by decide +kernel)⟩
theorem lw_p8 : lw_okq (⟨"SandMandalasModel", "takes", "(II)I"⟩, 13) := ⟨⟨by decide +kernel, by decide +kernel⟩, List.mem_of_getElem? (i := 619) (by decide +kernel), List.mem_of_getElem? (i := 702) (by decide +kernel), List.mem_of_getElem? (i := 703) (by decide +kernel)⟩
theorem lw_p9 : lw_okq (⟨"SandMandalasModel", "holder", "(I)I"⟩, 13) := ⟨⟨by decide +kernel, by decide +kernel⟩, List.mem_of_getElem? (i := 619) (by decide +kernel), List.mem_of_getElem? (i := 709) (by decide +kernel), List.mem_of_getElem? (i := 710) (by decide +kernel)⟩
theorem lw_p10 : lw_okq (⟨"SandMandalasModel", "pours", "(IIII)I"⟩, 13) := ⟨⟨by decide +kernel, by decide +kernel⟩, List.mem_of_getElem? (i := 619) (by decide +kernel), List.mem_of_getElem? (i := 724) (by decide +kernel), List.mem_of_getElem? (i := 725) (by decide +kernel)⟩
theorem lw_p11 : lw_okq (⟨"SandMandalasModel", "puts", "(III)V"⟩, 13) := ⟨⟨by decide +kernel, by decide +kernel⟩, List.mem_of_getElem? (i := 619) (by decide +kernel), List.mem_of_getElem? (i := 734) (by decide +kernel), List.mem_of_getElem? (i := 735) (by decide +kernel)⟩
theorem lw_p12 : lw_okq (⟨"SandMandalasModel", "scrapes", "(III)I"⟩, 13) := ⟨⟨by decide +kernel, by decide +kernel⟩, List.mem_of_getElem? (i := 619) (by decide +kernel), List.mem_of_getElem? (i := 742) (by decide +kernel), List.mem_of_getElem? (i := 743) (by decide +kernel)⟩
theorem lw_p13 : lw_okq (⟨"SandMandalasModel", "breathes", "(II)I"⟩, 13) := ⟨⟨by decide +kernel, by decide +kernel⟩, List.mem_of_getElem? (i := 619) (by decide +kernel), List.mem_of_getElem? (i := 750) (by decide +kernel), List.mem_of_getElem? (i := 751) (by decide +kernel)⟩
theorem lw_p14 : lw_okq (⟨"SandMandalasModel", "ringBreath", "(III)I"⟩, 13) := ⟨⟨by decide +kernel, by decide +kernel⟩, List.mem_of_getElem? (i := 619) (by decide +kernel), List.mem_of_getElem? (i := 754) (by decide +kernel), List.mem_of_getElem? (i := 755) (by decide +kernel)⟩
theorem lw_p15 : lw_okq (⟨"SandMandalasModel", "spills", "(I)I"⟩, 13) := ⟨⟨by decide +kernel, by decide +kernel⟩, List.mem_of_getElem? (i := 619) (by decide +kernel), List.mem_of_getElem? (i := 758) (by decide +kernel), List.mem_of_getElem? (i := 759) (by decide +kernel)⟩
def lw_privs_1 : List (MethodName × Nat) := [(⟨"SandMandalas$Memory", "circleRow", "(I)I"⟩, 4), (⟨"SandMandalas$Breath", "rememberRing", "(LSandMandalas$State;II)V"⟩, 3), (⟨"SandMandalas$Breath", "overPlace", "(LSandMandalas$State;IIII)I"⟩, 3), (⟨"SandMandalas$Pad", "addSign", "(I)V"⟩, 2), (⟨"SandMandalasModel", "hold", "()V"⟩, 13), (⟨"SandMandalasModel", "recorded", "(I)I"⟩, 13), (⟨"SandMandalasModel", "patterns", "(II)I"⟩, 13), (⟨"SandMandalasModel", "isOpen", "(I)Z"⟩, 13), (⟨"SandMandalasModel", "takes", "(II)I"⟩, 13), (⟨"SandMandalasModel", "holder", "(I)I"⟩, 13), (⟨"SandMandalasModel", "pours", "(IIII)I"⟩, 13), (⟨"SandMandalasModel", "puts", "(III)V"⟩, 13), (⟨"SandMandalasModel", "scrapes", "(III)I"⟩, 13), (⟨"SandMandalasModel", "breathes", "(II)I"⟩, 13), (⟨"SandMandalasModel", "ringBreath", "(III)I"⟩, 13), (⟨"SandMandalasModel", "spills", "(I)I"⟩, 13)]
theorem lw_r1 : ∀ q ∈ lw_privs_1, lw_okq q := List.forall_mem_cons.mpr ⟨lw_p0, List.forall_mem_cons.mpr ⟨lw_p1, List.forall_mem_cons.mpr ⟨lw_p2, List.forall_mem_cons.mpr ⟨lw_p3, List.forall_mem_cons.mpr ⟨lw_p4, List.forall_mem_cons.mpr ⟨lw_p5, List.forall_mem_cons.mpr ⟨lw_p6, List.forall_mem_cons.mpr ⟨lw_p7, List.forall_mem_cons.mpr ⟨lw_p8, List.forall_mem_cons.mpr ⟨lw_p9, List.forall_mem_cons.mpr ⟨lw_p10, List.forall_mem_cons.mpr ⟨lw_p11, List.forall_mem_cons.mpr ⟨lw_p12, List.forall_mem_cons.mpr ⟨lw_p13, List.forall_mem_cons.mpr ⟨lw_p14, List.forall_mem_cons.mpr ⟨lw_p15, fun _ h => absurd h List.not_mem_nil⟩⟩⟩⟩⟩⟩⟩⟩⟩⟩⟩⟩⟩⟩⟩⟩
theorem lw_p16 : lw_okq (⟨"SandMandalasModel", "closes", "()I"⟩, 13) := ⟨⟨by decide +kernel, by decide +kernel⟩, List.mem_of_getElem? (i := 619) (by decide +kernel), List.mem_of_getElem? (i := 766) (by decide +kernel), List.mem_of_getElem? (i := 767) (by decide +kernel)⟩
theorem lw_p17 : lw_okq (⟨"SandMandalasModel", "isWhole", "(I)Z"⟩, 13) := ⟨⟨by decide +kernel, by decide +kernel⟩, List.mem_of_getElem? (i := 619) (by decide +kernel), List.mem_of_getElem? (i := 770) (by decide +kernel), List.mem_of_getElem? (i := 771) (by decide +kernel)⟩
theorem lw_p18 : lw_okq (⟨"SandMandalasModel", "isRight", "(III)Z"⟩, 13) := ⟨⟨by decide +kernel, by decide +kernel⟩, List.mem_of_getElem? (i := 619) (by decide +kernel), List.mem_of_getElem? (i := 774) (by decide +kernel), List.mem_of_getElem? (i := 775) (by decide +kernel)⟩
theorem lw_p19 : lw_okq (⟨"SandMandalasModel", "wanted", "(III)I"⟩, 13) := ⟨⟨by decide +kernel, by decide +kernel⟩, List.mem_of_getElem? (i := 619) (by decide +kernel), List.mem_of_getElem? (i := 778) (by decide +kernel), List.mem_of_getElem? (i := 779) (by decide +kernel)⟩
theorem lw_p20 : lw_okq (⟨"SandMandalasModel", "mirrored", "(II)I"⟩, 13) := ⟨⟨by decide +kernel, by decide +kernel⟩, List.mem_of_getElem? (i := 619) (by decide +kernel), List.mem_of_getElem? (i := 782) (by decide +kernel), List.mem_of_getElem? (i := 783) (by decide +kernel)⟩
theorem lw_p21 : lw_okq (⟨"SandMandalasModel", "isMirrored", "(I)Z"⟩, 13) := ⟨⟨by decide +kernel, by decide +kernel⟩, List.mem_of_getElem? (i := 619) (by decide +kernel), List.mem_of_getElem? (i := 786) (by decide +kernel), List.mem_of_getElem? (i := 787) (by decide +kernel)⟩
theorem lw_p22 : lw_okq (⟨"SandMandalasModel", "sweeps", "()I"⟩, 13) := ⟨⟨by decide +kernel, by decide +kernel⟩, List.mem_of_getElem? (i := 619) (by decide +kernel), List.mem_of_getElem? (i := 794) (by decide +kernel), List.mem_of_getElem? (i := 795) (by decide +kernel)⟩
theorem lw_p23 : lw_okq (⟨"SandMandalasModel", "unlike", "(I)I"⟩, 13) := ⟨⟨by decide +kernel, by decide +kernel⟩, List.mem_of_getElem? (i := 619) (by decide +kernel), List.mem_of_getElem? (i := 809) (by decide +kernel), List.mem_of_getElem? (i := 810) (by decide +kernel)⟩
theorem lw_p24 : lw_okq (⟨"SandMandalasModel", "ofPlaces", "(II)I"⟩, 13) := ⟨⟨by decide +kernel, by decide +kernel⟩, List.mem_of_getElem? (i := 619) (by decide +kernel), List.mem_of_getElem? (i := 813) (by decide +kernel), List.mem_of_getElem? (i := 814) (by decide +kernel)⟩
theorem lw_p25 : lw_okq (⟨"SandMandalasModel", "missing", "(III)I"⟩, 13) := ⟨⟨by decide +kernel, by decide +kernel⟩, List.mem_of_getElem? (i := 619) (by decide +kernel), List.mem_of_getElem? (i := 817) (by decide +kernel), List.mem_of_getElem? (i := 818) (by decide +kernel)⟩
theorem lw_p26 : lw_okq (⟨"SandMandalasModel", "ofPlacesIn", "(II)I"⟩, 13) := ⟨⟨by decide +kernel, by decide +kernel⟩, List.mem_of_getElem? (i := 619) (by decide +kernel), List.mem_of_getElem? (i := 825) (by decide +kernel), List.mem_of_getElem? (i := 826) (by decide +kernel)⟩
theorem lw_p27 : lw_okq (⟨"SandMandalasModel", "isSwept", "(I)Z"⟩, 13) := ⟨⟨by decide +kernel, by decide +kernel⟩, List.mem_of_getElem? (i := 619) (by decide +kernel), List.mem_of_getElem? (i := 829) (by decide +kernel), List.mem_of_getElem? (i := 830) (by decide +kernel)⟩
theorem lw_p28 : lw_okq (⟨"SandMandalasModel", "ofAll", "(II)I"⟩, 13) := ⟨⟨by decide +kernel, by decide +kernel⟩, List.mem_of_getElem? (i := 619) (by decide +kernel), List.mem_of_getElem? (i := 837) (by decide +kernel), List.mem_of_getElem? (i := 838) (by decide +kernel)⟩
theorem lw_p29 : lw_okq (⟨"SandMandalasModel", "grains", "()I"⟩, 13) := ⟨⟨by decide +kernel, by decide +kernel⟩, List.mem_of_getElem? (i := 619) (by decide +kernel), List.mem_of_getElem? (i := 845) (by decide +kernel), List.mem_of_getElem? (i := 846) (by decide +kernel)⟩
theorem lw_p30 : lw_okq (⟨"SandMandalasModel", "whole", "()I"⟩, 13) := ⟨⟨by decide +kernel, by decide +kernel⟩, List.mem_of_getElem? (i := 619) (by decide +kernel), List.mem_of_getElem? (i := 849) (by decide +kernel), List.mem_of_getElem? (i := 850) (by decide +kernel)⟩
theorem lw_p31 : lw_okq (⟨"SandMandalasModel", "keepTrial", "()V"⟩, 13) := ⟨⟨by decide +kernel, by decide +kernel⟩, List.mem_of_getElem? (i := 619) (by decide +kernel), List.mem_of_getElem? (i := 865) (by decide +kernel), List.mem_of_getElem? (i := 866) (by decide +kernel)⟩
def lw_privs_2 : List (MethodName × Nat) := [(⟨"SandMandalasModel", "closes", "()I"⟩, 13), (⟨"SandMandalasModel", "isWhole", "(I)Z"⟩, 13), (⟨"SandMandalasModel", "isRight", "(III)Z"⟩, 13), (⟨"SandMandalasModel", "wanted", "(III)I"⟩, 13), (⟨"SandMandalasModel", "mirrored", "(II)I"⟩, 13), (⟨"SandMandalasModel", "isMirrored", "(I)Z"⟩, 13), (⟨"SandMandalasModel", "sweeps", "()I"⟩, 13), (⟨"SandMandalasModel", "unlike", "(I)I"⟩, 13), (⟨"SandMandalasModel", "ofPlaces", "(II)I"⟩, 13), (⟨"SandMandalasModel", "missing", "(III)I"⟩, 13), (⟨"SandMandalasModel", "ofPlacesIn", "(II)I"⟩, 13), (⟨"SandMandalasModel", "isSwept", "(I)Z"⟩, 13), (⟨"SandMandalasModel", "ofAll", "(II)I"⟩, 13), (⟨"SandMandalasModel", "grains", "()I"⟩, 13), (⟨"SandMandalasModel", "whole", "()I"⟩, 13), (⟨"SandMandalasModel", "keepTrial", "()V"⟩, 13)]
theorem lw_r2 : ∀ q ∈ lw_privs_2, lw_okq q := List.forall_mem_cons.mpr ⟨lw_p16, List.forall_mem_cons.mpr ⟨lw_p17, List.forall_mem_cons.mpr ⟨lw_p18, List.forall_mem_cons.mpr ⟨lw_p19, List.forall_mem_cons.mpr ⟨lw_p20, List.forall_mem_cons.mpr ⟨lw_p21, List.forall_mem_cons.mpr ⟨lw_p22, List.forall_mem_cons.mpr ⟨lw_p23, List.forall_mem_cons.mpr ⟨lw_p24, List.forall_mem_cons.mpr ⟨lw_p25, List.forall_mem_cons.mpr ⟨lw_p26, List.forall_mem_cons.mpr ⟨lw_p27, List.forall_mem_cons.mpr ⟨lw_p28, List.forall_mem_cons.mpr ⟨lw_p29, List.forall_mem_cons.mpr ⟨lw_p30, List.forall_mem_cons.mpr ⟨lw_p31, fun _ h => absurd h List.not_mem_nil⟩⟩⟩⟩⟩⟩⟩⟩⟩⟩⟩⟩⟩⟩⟩⟩
theorem lw_p32 : lw_okq (⟨"SandMandalasModel", "turned", "(IIIZZ)I"⟩, 13) := ⟨⟨by decide +kernel, by decide +kernel⟩, List.mem_of_getElem? (i := 619) (by decide +kernel), List.mem_of_getElem? (i := 869) (by decide +kernel), List.mem_of_getElem? (i := 870) (by decide +kernel)⟩
theorem lw_p33 : lw_okq (⟨"SandMandalasModel", "putBack", "()V"⟩, 13) := ⟨⟨by decide +kernel, by decide +kernel⟩, List.mem_of_getElem? (i := 619) (by decide +kernel), List.mem_of_getElem? (i := 873) (by decide +kernel), List.mem_of_getElem? (i := 874) (by decide +kernel)⟩
theorem lw_p34 : lw_okq (⟨"SandMandalasModel", "changes", "(II)Z"⟩, 13) := ⟨⟨by decide +kernel, by decide +kernel⟩, List.mem_of_getElem? (i := 619) (by decide +kernel), List.mem_of_getElem? (i := 881) (by decide +kernel), List.mem_of_getElem? (i := 882) (by decide +kernel)⟩
theorem lw_p35 : lw_okq (⟨"SandMandalasModel", "faultOf", "()I"⟩, 13) := ⟨⟨by decide +kernel, by decide +kernel⟩, List.mem_of_getElem? (i := 619) (by decide +kernel), List.mem_of_getElem? (i := 904) (by decide +kernel), List.mem_of_getElem? (i := 905) (by decide +kernel)⟩
theorem lw_p36 : lw_okq (⟨"SandMandalasModel", "readsOrder", "()Z"⟩, 13) := ⟨⟨by decide +kernel, by decide +kernel⟩, List.mem_of_getElem? (i := 619) (by decide +kernel), List.mem_of_getElem? (i := 908) (by decide +kernel), List.mem_of_getElem? (i := 909) (by decide +kernel)⟩
theorem lw_p37 : lw_okq (⟨"SandMandalasModel", "accepts", "(C)Z"⟩, 13) := ⟨⟨by decide +kernel, by decide +kernel⟩, List.mem_of_getElem? (i := 619) (by decide +kernel), List.mem_of_getElem? (i := 912) (by decide +kernel), List.mem_of_getElem? (i := 913) (by decide +kernel)⟩
theorem lw_p38 : lw_okq (⟨"SandMandalasModel", "isSign", "(CC)Z"⟩, 13) := ⟨⟨by decide +kernel, by decide +kernel⟩, List.mem_of_getElem? (i := 619) (by decide +kernel), List.mem_of_getElem? (i := 916) (by decide +kernel), List.mem_of_getElem? (i := 917) (by decide +kernel)⟩
theorem lw_p39 : lw_okq (⟨"SandMandalasModel", "digit", "(ICC)Z"⟩, 13) := ⟨⟨by decide +kernel, by decide +kernel⟩, List.mem_of_getElem? (i := 619) (by decide +kernel), List.mem_of_getElem? (i := 920) (by decide +kernel), List.mem_of_getElem? (i := 921) (by decide +kernel)⟩
theorem lw_p40 : lw_okq (⟨"SandMandalasModel", "number", "(I)Z"⟩, 13) := ⟨⟨by decide +kernel, by decide +kernel⟩, List.mem_of_getElem? (i := 619) (by decide +kernel), List.mem_of_getElem? (i := 924) (by decide +kernel), List.mem_of_getElem? (i := 925) (by decide +kernel)⟩
theorem lw_p41 : lw_okq (⟨"SandMandalasModel", "colours", "()Z"⟩, 13) := ⟨⟨by decide +kernel, by decide +kernel⟩, List.mem_of_getElem? (i := 619) (by decide +kernel), List.mem_of_getElem? (i := 928) (by decide +kernel), List.mem_of_getElem? (i := 929) (by decide +kernel)⟩
theorem lw_p42 : lw_okq (⟨"SandMandalasModel", "direction", "()Z"⟩, 13) := ⟨⟨by decide +kernel, by decide +kernel⟩, List.mem_of_getElem? (i := 619) (by decide +kernel), List.mem_of_getElem? (i := 932) (by decide +kernel), List.mem_of_getElem? (i := 933) (by decide +kernel)⟩
theorem lw_p43 : lw_okq (⟨"SandMandalasModel", "does", "(I)I"⟩, 13) := ⟨⟨by decide +kernel, by decide +kernel⟩, List.mem_of_getElem? (i := 619) (by decide +kernel), List.mem_of_getElem? (i := 940) (by decide +kernel), List.mem_of_getElem? (i := 941) (by decide +kernel)⟩
def lw_privs_3 : List (MethodName × Nat) := [(⟨"SandMandalasModel", "turned", "(IIIZZ)I"⟩, 13), (⟨"SandMandalasModel", "putBack", "()V"⟩, 13), (⟨"SandMandalasModel", "changes", "(II)Z"⟩, 13), (⟨"SandMandalasModel", "faultOf", "()I"⟩, 13), (⟨"SandMandalasModel", "readsOrder", "()Z"⟩, 13), (⟨"SandMandalasModel", "accepts", "(C)Z"⟩, 13), (⟨"SandMandalasModel", "isSign", "(CC)Z"⟩, 13), (⟨"SandMandalasModel", "digit", "(ICC)Z"⟩, 13), (⟨"SandMandalasModel", "number", "(I)Z"⟩, 13), (⟨"SandMandalasModel", "colours", "()Z"⟩, 13), (⟨"SandMandalasModel", "direction", "()Z"⟩, 13), (⟨"SandMandalasModel", "does", "(I)I"⟩, 13)]
theorem lw_r3 : ∀ q ∈ lw_privs_3, lw_okq q := List.forall_mem_cons.mpr ⟨lw_p32, List.forall_mem_cons.mpr ⟨lw_p33, List.forall_mem_cons.mpr ⟨lw_p34, List.forall_mem_cons.mpr ⟨lw_p35, List.forall_mem_cons.mpr ⟨lw_p36, List.forall_mem_cons.mpr ⟨lw_p37, List.forall_mem_cons.mpr ⟨lw_p38, List.forall_mem_cons.mpr ⟨lw_p39, List.forall_mem_cons.mpr ⟨lw_p40, List.forall_mem_cons.mpr ⟨lw_p41, List.forall_mem_cons.mpr ⟨lw_p42, List.forall_mem_cons.mpr ⟨lw_p43, fun _ h => absurd h List.not_mem_nil⟩⟩⟩⟩⟩⟩⟩⟩⟩⟩⟩⟩
def lw_privs : List (MethodName × Nat) := lw_privs_1 ++ (lw_privs_2 ++ (lw_privs_3))
def lw_tbl : List Cond := k2_sels lw_privs ++ tables_1
theorem lw_privs_ok : ∀ q ∈ lw_privs, lw_okq q := by
  show ∀ q ∈ lw_privs_1 ++ (lw_privs_2 ++ (lw_privs_3)), lw_okq q
  exact List.forall_mem_append.mpr ⟨lw_r1, List.forall_mem_append.mpr ⟨lw_r2, lw_r3⟩⟩
def RX0 : String := "SandMandalas$Breath"
def TX0 : u_T := fun k => match k with
  | 0 => ("SandMandalas$Breath", "grainsBefore", "[I", true)
  | 1 => ("SandMandalas$Breath", "coloursBefore", "[I", true)
  | _ => ("SandMandalas$Breath", "changed", "Z", false)
def tyX0 : Nat → FieldType := fun k => match k with
  | 0 => .array .int
  | 1 => .array .int
  | _ => .boolean
abbrev wsX00 : List Cond := u_ws RX0 TX0 3
theorem nmX0 : ∀ a, a < 3 → ∀ b, b < 3 → a ≠ b → (TX0 a).2.1 ≠ (TX0 b).2.1 := by decide +kernel
theorem tyX0_ok : ∀ k, k < 3 → parseFieldDescriptor (TX0 k).2.2.1 = some (tyX0 k) := by decide +kernel
abbrev cX0_init : ByteArray := prog_2_method_1_code
def yX0_init : MethodName := ⟨RX0, "<init>", "()V"⟩
abbrev cX0_over : ByteArray := prog_2_method_2_code
def yX0_over : MethodName := ⟨RX0, "over", "(LSandMandalas$State;II)I"⟩
abbrev cX0_changedSomething : ByteArray := prog_2_method_3_code
def yX0_changedSomething : MethodName := ⟨RX0, "changedSomething", "()Z"⟩
abbrev cX0_rememberRing : ByteArray := prog_2_method_4_code
def yX0_rememberRing : MethodName := ⟨RX0, "rememberRing", "(LSandMandalas$State;II)V"⟩
abbrev cX0_overPlace : ByteArray := prog_2_method_5_code
def yX0_overPlace : MethodName := ⟨RX0, "overPlace", "(LSandMandalas$State;IIII)I"⟩
abbrev cX0_remembered : ByteArray := prog_2_method_6_code
def yX0_remembered : MethodName := ⟨RX0, "remembered", "([II)I"⟩
abbrev cX0_spilled : ByteArray := prog_2_method_7_code
def yX0_spilled : MethodName := ⟨RX0, "spilled", "(II)I"⟩
def RX1 : String := "SandMandalas$Changes"
def TX1 : u_T := fun k => match k with
  | _ => ("", "", "", false)
def tyX1 : Nat → FieldType := fun k => match k with
  | _ => .int
abbrev wsX10 : List Cond := u_ws RX1 TX1 0
theorem nmX1 : ∀ a, a < 0 → ∀ b, b < 0 → a ≠ b → (TX1 a).2.1 ≠ (TX1 b).2.1 := by decide +kernel
theorem tyX1_ok : ∀ k, k < 0 → parseFieldDescriptor (TX1 k).2.2.1 = some (tyX1 k) := by decide +kernel
abbrev cX1_quarterOfTurn : ByteArray := prog_3_method_2_code
def yX1_quarterOfTurn : MethodName := ⟨RX1, "quarterOfTurn", "(I)I"⟩
abbrev cX1_changeSetting : ByteArray := prog_3_method_3_code
def yX1_changeSetting : MethodName := ⟨RX1, "changeSetting", "(LSandMandalas$State;II)I"⟩
abbrev cX1_isSettingValue : ByteArray := prog_3_method_4_code
def yX1_isSettingValue : MethodName := ⟨RX1, "isSettingValue", "(II)Z"⟩
abbrev cX1_layPattern : ByteArray := prog_3_method_5_code
def yX1_layPattern : MethodName := ⟨RX1, "layPattern", "(LSandMandalas$State;II)I"⟩
abbrev cX1_isColourRow : ByteArray := prog_3_method_6_code
def yX1_isColourRow : MethodName := ⟨RX1, "isColourRow", "(I)Z"⟩
abbrev cX1_takeFunnel : ByteArray := prog_3_method_7_code
def yX1_takeFunnel : MethodName := ⟨RX1, "takeFunnel", "(LSandMandalas$State;II)I"⟩
abbrev cX1_fillFunnel : ByteArray := prog_3_method_8_code
def yX1_fillFunnel : MethodName := ⟨RX1, "fillFunnel", "(LSandMandalas$State;II)I"⟩
abbrev cX1_pourGrains : ByteArray := prog_3_method_9_code
def yX1_pourGrains : MethodName := ⟨RX1, "pourGrains", "(LSandMandalas$State;IIII)I"⟩
abbrev cX1_scrapeBare : ByteArray := prog_3_method_10_code
def yX1_scrapeBare : MethodName := ⟨RX1, "scrapeBare", "(LSandMandalas$State;III)I"⟩
abbrev cX1_blow : ByteArray := prog_3_method_11_code
def yX1_blow : MethodName := ⟨RX1, "blow", "(LSandMandalas$State;LSandMandalas$Breath;II)I"⟩
abbrev cX1_closeRing : ByteArray := prog_3_method_12_code
def yX1_closeRing : MethodName := ⟨RX1, "closeRing", "(LSandMandalas$State;)I"⟩
abbrev cX1_sweepQuarter : ByteArray := prog_3_method_13_code
def yX1_sweepQuarter : MethodName := ⟨RX1, "sweepQuarter", "(LSandMandalas$State;)I"⟩
abbrev cX1_beginAnew : ByteArray := prog_3_method_14_code
def yX1_beginAnew : MethodName := ⟨RX1, "beginAnew", "(LSandMandalas$State;)V"⟩
def RX2 : String := "SandMandalas$Memory"
def TX2 : u_T := fun k => match k with
  | 0 => ("SandMandalas$Memory", "rows", "[I", true)
  | 1 => ("SandMandalas$Memory", "oldest", "I", false)
  | 2 => ("SandMandalas$Memory", "kept", "I", false)
  | _ => ("SandMandalas$Memory", "savedSlots", "I", false)
def tyX2 : Nat → FieldType := fun k => match k with
  | 0 => .array .int
  | 1 => .int
  | 2 => .int
  | _ => .int
abbrev wsX20 : List Cond := u_ws RX2 TX2 4
theorem nmX2 : ∀ a, a < 4 → ∀ b, b < 4 → a ≠ b → (TX2 a).2.1 ≠ (TX2 b).2.1 := by decide +kernel
theorem tyX2_ok : ∀ k, k < 4 → parseFieldDescriptor (TX2 k).2.2.1 = some (tyX2 k) := by decide +kernel
abbrev cX2_init : ByteArray := prog_4_method_1_code
def yX2_init : MethodName := ⟨RX2, "<init>", "()V"⟩
abbrev cX2_undoable : ByteArray := prog_4_method_2_code
def yX2_undoable : MethodName := ⟨RX2, "undoable", "()I"⟩
abbrev cX2_stage : ByteArray := prog_4_method_3_code
def yX2_stage : MethodName := ⟨RX2, "stage", "(LSandMandalas$State;)V"⟩
abbrev cX2_recordUnlessError : ByteArray := prog_4_method_4_code
def yX2_recordUnlessError : MethodName := ⟨RX2, "recordUnlessError", "(I)I"⟩
abbrev cX2_goBack : ByteArray := prog_4_method_5_code
def yX2_goBack : MethodName := ⟨RX2, "goBack", "(LSandMandalas$State;)I"⟩
abbrev cX2_circleRow : ByteArray := prog_4_method_6_code
def yX2_circleRow : MethodName := ⟨RX2, "circleRow", "(I)I"⟩
abbrev cX2_isSlot : ByteArray := prog_4_method_7_code
def yX2_isSlot : MethodName := ⟨RX2, "isSlot", "(I)Z"⟩
abbrev cX2_isSaved : ByteArray := prog_4_method_8_code
def yX2_isSaved : MethodName := ⟨RX2, "isSaved", "(I)Z"⟩
abbrev cX2_keepInSlot : ByteArray := prog_4_method_9_code
def yX2_keepInSlot : MethodName := ⟨RX2, "keepInSlot", "(ILSandMandalas$State;)V"⟩
abbrev cX2_bringFromSlot : ByteArray := prog_4_method_10_code
def yX2_bringFromSlot : MethodName := ⟨RX2, "bringFromSlot", "(ILSandMandalas$State;)V"⟩
abbrev cX2_slotRow : ByteArray := prog_4_method_11_code
def yX2_slotRow : MethodName := ⟨RX2, "slotRow", "(I)I"⟩
def RX3 : String := "SandMandalas$Orders"
def TX3 : u_T := fun k => match k with
  | _ => ("", "", "", false)
def tyX3 : Nat → FieldType := fun k => match k with
  | _ => .int
abbrev wsX30 : List Cond := u_ws RX3 TX3 0
theorem nmX3 : ∀ a, a < 0 → ∀ b, b < 0 → a ≠ b → (TX3 a).2.1 ≠ (TX3 b).2.1 := by decide +kernel
theorem tyX3_ok : ∀ k, k < 0 → parseFieldDescriptor (TX3 k).2.2.1 = some (tyX3 k) := by decide +kernel
abbrev cX3_firstFault : ByteArray := prog_5_method_2_code
def yX3_firstFault : MethodName := ⟨RX3, "firstFault", "(LSandMandalas$Pad;)I"⟩
abbrev cX3_shapeOf : ByteArray := prog_5_method_3_code
def yX3_shapeOf : MethodName := ⟨RX3, "shapeOf", "(I)Ljava/lang/String;"⟩
abbrev cX3_fits : ByteArray := prog_5_method_4_code
def yX3_fits : MethodName := ⟨RX3, "fits", "(II)Z"⟩
abbrev cX3_isDigit : ByteArray := prog_5_method_5_code
def yX3_isDigit : MethodName := ⟨RX3, "isDigit", "(I)Z"⟩
abbrev cX3_hasSecondDigit : ByteArray := prog_5_method_6_code
def yX3_hasSecondDigit : MethodName := ⟨RX3, "hasSecondDigit", "(LSandMandalas$Pad;I)Z"⟩
abbrev cX3_beginsAt : ByteArray := prog_5_method_7_code
def yX3_beginsAt : MethodName := ⟨RX3, "beginsAt", "(LSandMandalas$Pad;I)Z"⟩
abbrev cX3_obey : ByteArray := prog_5_method_8_code
def yX3_obey : MethodName := ⟨RX3, "obey", "(LSandMandalas$Pad;ILSandMandalas$State;LSandMandalas$Breath;)I"⟩
abbrev cX3_digit : ByteArray := prog_5_method_9_code
def yX3_digit : MethodName := ⟨RX3, "digit", "(LSandMandalas$Pad;I)I"⟩
abbrev cX3_numberAt : ByteArray := prog_5_method_10_code
def yX3_numberAt : MethodName := ⟨RX3, "numberAt", "(LSandMandalas$Pad;I)I"⟩
abbrev cX3_colourRow : ByteArray := prog_5_method_11_code
def yX3_colourRow : MethodName := ⟨RX3, "colourRow", "(LSandMandalas$Pad;I)I"⟩
def RX4 : String := "SandMandalas$Pad"
def TX4 : u_T := fun k => match k with
  | 0 => ("SandMandalas$Pad", "signs", "[I", true)
  | _ => ("SandMandalas$Pad", "length", "I", false)
def tyX4 : Nat → FieldType := fun k => match k with
  | 0 => .array .int
  | _ => .int
abbrev wsX40 : List Cond := u_ws RX4 TX4 2
theorem nmX4 : ∀ a, a < 2 → ∀ b, b < 2 → a ≠ b → (TX4 a).2.1 ≠ (TX4 b).2.1 := by decide +kernel
theorem tyX4_ok : ∀ k, k < 2 → parseFieldDescriptor (TX4 k).2.2.1 = some (tyX4 k) := by decide +kernel
abbrev cX4_init : ByteArray := prog_6_method_1_code
def yX4_init : MethodName := ⟨RX4, "<init>", "()V"⟩
abbrev cX4_length : ByteArray := prog_6_method_2_code
def yX4_length : MethodName := ⟨RX4, "length", "()I"⟩
abbrev cX4_empty : ByteArray := prog_6_method_3_code
def yX4_empty : MethodName := ⟨RX4, "empty", "()V"⟩
abbrev cX4_sign : ByteArray := prog_6_method_4_code
def yX4_sign : MethodName := ⟨RX4, "sign", "(I)I"⟩
abbrev cX4_append : ByteArray := prog_6_method_5_code
def yX4_append : MethodName := ⟨RX4, "append", "(J)I"⟩
abbrev cX4_amountOf : ByteArray := prog_6_method_6_code
def yX4_amountOf : MethodName := ⟨RX4, "amountOf", "(J)I"⟩
abbrev cX4_addSign : ByteArray := prog_6_method_7_code
def yX4_addSign : MethodName := ⟨RX4, "addSign", "(I)V"⟩
def RX5 : String := "SandMandalas$State"
def TX5 : u_T := fun k => match k with
  | _ => ("SandMandalas$State", "cells", "[I", true)
def tyX5 : Nat → FieldType := fun k => match k with
  | _ => .array .int
abbrev wsX50 : List Cond := u_ws RX5 TX5 1
theorem nmX5 : ∀ a, a < 1 → ∀ b, b < 1 → a ≠ b → (TX5 a).2.1 ≠ (TX5 b).2.1 := by decide +kernel
theorem tyX5_ok : ∀ k, k < 1 → parseFieldDescriptor (TX5 k).2.2.1 = some (tyX5 k) := by decide +kernel
abbrev cX5_init : ByteArray := prog_7_method_1_code
def yX5_init : MethodName := ⟨RX5, "<init>", "()V"⟩
abbrev cX5_number : ByteArray := prog_7_method_2_code
def yX5_number : MethodName := ⟨RX5, "number", "(I)I"⟩
abbrev cX5_lay : ByteArray := prog_7_method_3_code
def yX5_lay : MethodName := ⟨RX5, "lay", "(II)V"⟩
abbrev cX5_raise : ByteArray := prog_7_method_4_code
def yX5_raise : MethodName := ⟨RX5, "raise", "(II)V"⟩
abbrev cX5_copyFrom : ByteArray := prog_7_method_5_code
def yX5_copyFrom : MethodName := ⟨RX5, "copyFrom", "(LSandMandalas$State;)V"⟩
abbrev cX5_copyInto : ByteArray := prog_7_method_6_code
def yX5_copyInto : MethodName := ⟨RX5, "copyInto", "([II)V"⟩
abbrev cX5_copyOutOf : ByteArray := prog_7_method_7_code
def yX5_copyOutOf : MethodName := ⟨RX5, "copyOutOf", "([II)V"⟩
abbrev cX5_setting : ByteArray := prog_7_method_8_code
def yX5_setting : MethodName := ⟨RX5, "setting", "(I)I"⟩
abbrev cX5_hasPattern : ByteArray := prog_7_method_9_code
def yX5_hasPattern : MethodName := ⟨RX5, "hasPattern", "(I)Z"⟩
abbrev cX5_dropPatterns : ByteArray := prog_7_method_10_code
def yX5_dropPatterns : MethodName := ⟨RX5, "dropPatterns", "()V"⟩
abbrev cX5_funnel : ByteArray := prog_7_method_11_code
def yX5_funnel : MethodName := ⟨RX5, "funnel", "(I)I"⟩
abbrev cX5_heldBy : ByteArray := prog_7_method_12_code
def yX5_heldBy : MethodName := ⟨RX5, "heldBy", "(I)I"⟩
abbrev cX5_holderOf : ByteArray := prog_7_method_13_code
def yX5_holderOf : MethodName := ⟨RX5, "holderOf", "(I)I"⟩
abbrev cX5_isClosed : ByteArray := prog_7_method_14_code
def yX5_isClosed : MethodName := ⟨RX5, "isClosed", "(I)Z"⟩
abbrev cX5_isSwept : ByteArray := prog_7_method_15_code
def yX5_isSwept : MethodName := ⟨RX5, "isSwept", "(I)Z"⟩
abbrev cX5_grains : ByteArray := prog_7_method_16_code
def yX5_grains : MethodName := ⟨RX5, "grains", "(III)I"⟩
abbrev cX5_colour : ByteArray := prog_7_method_17_code
def yX5_colour : MethodName := ⟨RX5, "colour", "(III)I"⟩
abbrev cX5_heap : ByteArray := prog_7_method_18_code
def yX5_heap : MethodName := ⟨RX5, "heap", "(IIIII)V"⟩
abbrev cX5_patternPlace : ByteArray := prog_7_method_19_code
def yX5_patternPlace : MethodName := ⟨RX5, "patternPlace", "(II)I"⟩
abbrev cX5_isMirrored : ByteArray := prog_7_method_20_code
def yX5_isMirrored : MethodName := ⟨RX5, "isMirrored", "(I)Z"⟩
abbrev cX5_wanted : ByteArray := prog_7_method_21_code
def yX5_wanted : MethodName := ⟨RX5, "wanted", "(III)I"⟩
abbrev cX5_isRight : ByteArray := prog_7_method_22_code
def yX5_isRight : MethodName := ⟨RX5, "isRight", "(III)Z"⟩
abbrev cX5_missing : ByteArray := prog_7_method_23_code
def yX5_missing : MethodName := ⟨RX5, "missing", "(III)I"⟩
def RX6 : String := "SandMandalas$Survey"
def TX6 : u_T := fun k => match k with
  | _ => ("", "", "", false)
def tyX6 : Nat → FieldType := fun k => match k with
  | _ => .int
abbrev wsX60 : List Cond := u_ws RX6 TX6 0
theorem nmX6 : ∀ a, a < 0 → ∀ b, b < 0 → a ≠ b → (TX6 a).2.1 ≠ (TX6 b).2.1 := by decide +kernel
theorem tyX6_ok : ∀ k, k < 0 → parseFieldDescriptor (TX6 k).2.2.1 = some (tyX6 k) := by decide +kernel
abbrev cX6_tally : ByteArray := prog_8_method_2_code
def yX6_tally : MethodName := ⟨RX6, "tally", "(LSandMandalas$State;IIII)I"⟩
abbrev cX6_matches : ByteArray := prog_8_method_3_code
def yX6_matches : MethodName := ⟨RX6, "matches", "(II)Z"⟩
abbrev cX6_measured : ByteArray := prog_8_method_4_code
def yX6_measured : MethodName := ⟨RX6, "measured", "(LSandMandalas$State;IIIII)I"⟩
abbrev cX6_isWhole : ByteArray := prog_8_method_5_code
def yX6_isWhole : MethodName := ⟨RX6, "isWhole", "(LSandMandalas$State;I)Z"⟩
abbrev cX6_wholeRings : ByteArray := prog_8_method_6_code
def yX6_wholeRings : MethodName := ⟨RX6, "wholeRings", "(LSandMandalas$State;)I"⟩
abbrev cX6_unlikePlaces : ByteArray := prog_8_method_7_code
def yX6_unlikePlaces : MethodName := ⟨RX6, "unlikePlaces", "(LSandMandalas$State;I)I"⟩
abbrev cX6_isUnlike : ByteArray := prog_8_method_8_code
def yX6_isUnlike : MethodName := ⟨RX6, "isUnlike", "(LSandMandalas$State;II)Z"⟩
abbrev cX6_neediest : ByteArray := prog_8_method_9_code
def yX6_neediest : MethodName := ⟨RX6, "neediest", "(LSandMandalas$State;)I"⟩
abbrev cX6_canBePoured : ByteArray := prog_8_method_10_code
def yX6_canBePoured : MethodName := ⟨RX6, "canBePoured", "(LSandMandalas$State;III)Z"⟩
abbrev cX6_rightOnlyInFirst : ByteArray := prog_8_method_11_code
def yX6_rightOnlyInFirst : MethodName := ⟨RX6, "rightOnlyInFirst", "(LSandMandalas$State;LSandMandalas$State;I)I"⟩
def RX7 : String := "SandMandalas"
def TX7 : u_T := fun k => match k with
  | 0 => ("SandMandalas", "state", "LSandMandalas$State;", true)
  | 1 => ("SandMandalas", "trial", "LSandMandalas$State;", true)
  | 2 => ("SandMandalas", "breath", "LSandMandalas$Breath;", true)
  | 3 => ("SandMandalas", "memory", "LSandMandalas$Memory;", true)
  | _ => ("SandMandalas", "pad", "LSandMandalas$Pad;", true)
def tyX7 : Nat → FieldType := fun k => match k with
  | 0 => .object "SandMandalas$State"
  | 1 => .object "SandMandalas$State"
  | 2 => .object "SandMandalas$Breath"
  | 3 => .object "SandMandalas$Memory"
  | _ => .object "SandMandalas$Pad"
abbrev wsX70 : List Cond := u_ws RX7 TX7 5
theorem nmX7 : ∀ a, a < 5 → ∀ b, b < 5 → a ≠ b → (TX7 a).2.1 ≠ (TX7 b).2.1 := by decide +kernel
theorem tyX7_ok : ∀ k, k < 5 → parseFieldDescriptor (TX7 k).2.2.1 = some (tyX7 k) := by decide +kernel
abbrev cX7_init : ByteArray := prog_1_method_1_code
def yX7_init : MethodName := ⟨RX7, "<init>", "()V"⟩
abbrev cX7_set : ByteArray := prog_1_method_2_code
def yX7_set : MethodName := ⟨RX7, "set", "(II)I"⟩
abbrev cX7_pattern : ByteArray := prog_1_method_3_code
def yX7_pattern : MethodName := ⟨RX7, "pattern", "(II)I"⟩
abbrev cX7_take : ByteArray := prog_1_method_4_code
def yX7_take : MethodName := ⟨RX7, "take", "(II)I"⟩
abbrev cX7_fill : ByteArray := prog_1_method_5_code
def yX7_fill : MethodName := ⟨RX7, "fill", "(II)I"⟩
abbrev cX7_pour : ByteArray := prog_1_method_6_code
def yX7_pour : MethodName := ⟨RX7, "pour", "(IIII)I"⟩
abbrev cX7_scrape : ByteArray := prog_1_method_7_code
def yX7_scrape : MethodName := ⟨RX7, "scrape", "(III)I"⟩
abbrev cX7_breathe : ByteArray := prog_1_method_8_code
def yX7_breathe : MethodName := ⟨RX7, "breathe", "(II)I"⟩
abbrev cX7_close : ByteArray := prog_1_method_9_code
def yX7_close : MethodName := ⟨RX7, "close", "()I"⟩
abbrev cX7_sweep : ByteArray := prog_1_method_10_code
def yX7_sweep : MethodName := ⟨RX7, "sweep", "()I"⟩
abbrev cX7_at : ByteArray := prog_1_method_11_code
def yX7_at : MethodName := ⟨RX7, "at", "(IIII)I"⟩
abbrev cX7_ofRing : ByteArray := prog_1_method_12_code
def yX7_ofRing : MethodName := ⟨RX7, "ofRing", "(II)I"⟩
abbrev cX7_ofQuarter : ByteArray := prog_1_method_13_code
def yX7_ofQuarter : MethodName := ⟨RX7, "ofQuarter", "(II)I"⟩
abbrev cX7_ofColour : ByteArray := prog_1_method_14_code
def yX7_ofColour : MethodName := ⟨RX7, "ofColour", "(II)I"⟩
abbrev cX7_count : ByteArray := prog_1_method_15_code
def yX7_count : MethodName := ⟨RX7, "count", "(I)I"⟩
abbrev cX7_needed : ByteArray := prog_1_method_16_code
def yX7_needed : MethodName := ⟨RX7, "needed", "(I)I"⟩
abbrev cX7_lacking : ByteArray := prog_1_method_17_code
def yX7_lacking : MethodName := ⟨RX7, "lacking", "()I"⟩
abbrev cX7_ifBreathed : ByteArray := prog_1_method_18_code
def yX7_ifBreathed : MethodName := ⟨RX7, "ifBreathed", "(III)I"⟩
abbrev cX7_settles : ByteArray := prog_1_method_19_code
def yX7_settles : MethodName := ⟨RX7, "settles", "(II)I"⟩
abbrev cX7_best : ByteArray := prog_1_method_20_code
def yX7_best : MethodName := ⟨RX7, "best", "()I"⟩
abbrev cX7_put : ByteArray := prog_1_method_21_code
def yX7_put : MethodName := ⟨RX7, "put", "(J)I"⟩
abbrev cX7_wipe : ByteArray := prog_1_method_22_code
def yX7_wipe : MethodName := ⟨RX7, "wipe", "()I"⟩
abbrev cX7_fault : ByteArray := prog_1_method_23_code
def yX7_fault : MethodName := ⟨RX7, "fault", "()I"⟩
abbrev cX7_carryOut : ByteArray := prog_1_method_24_code
def yX7_carryOut : MethodName := ⟨RX7, "carryOut", "()I"⟩
abbrev cX7_undo : ByteArray := prog_1_method_25_code
def yX7_undo : MethodName := ⟨RX7, "undo", "()I"⟩
abbrev cX7_save : ByteArray := prog_1_method_26_code
def yX7_save : MethodName := ⟨RX7, "save", "(I)I"⟩
abbrev cX7_restore : ByteArray := prog_1_method_27_code
def yX7_restore : MethodName := ⟨RX7, "restore", "(I)I"⟩
abbrev cX7_isQuarter : ByteArray := prog_1_method_28_code
def yX7_isQuarter : MethodName := ⟨RX7, "isQuarter", "(I)Z"⟩
abbrev cX7_isRing : ByteArray := prog_1_method_29_code
def yX7_isRing : MethodName := ⟨RX7, "isRing", "(I)Z"⟩
abbrev cX7_isPlace : ByteArray := prog_1_method_30_code
def yX7_isPlace : MethodName := ⟨RX7, "isPlace", "(III)Z"⟩
abbrev cX7_isColour : ByteArray := prog_1_method_31_code
def yX7_isColour : MethodName := ⟨RX7, "isColour", "(I)Z"⟩
abbrev cX7_isDirection : ByteArray := prog_1_method_32_code
def yX7_isDirection : MethodName := ⟨RX7, "isDirection", "(I)Z"⟩
abbrev cX7_bit : ByteArray := prog_1_method_33_code
def yX7_bit : MethodName := ⟨RX7, "bit", "(Z)I"⟩
def RX8 : String := "SandMandalasModel"
def TX8 : u_T := fun k => match k with
  | 0 => ("SandMandalasModel", "s", "[I", true)
  | 1 => ("SandMandalasModel", "spare", "[I", true)
  | 2 => ("SandMandalasModel", "trial", "[I", true)
  | 3 => ("SandMandalasModel", "before", "[I", true)
  | 4 => ("SandMandalasModel", "saved", "[I", true)
  | 5 => ("SandMandalasModel", "isSaved", "[Z", true)
  | 6 => ("SandMandalasModel", "ahead", "[I", true)
  | 7 => ("SandMandalasModel", "read", "[I", true)
  | 8 => ("SandMandalasModel", "pad", "[C", true)
  | 9 => ("SandMandalasModel", "length", "I", false)
  | 10 => ("SandMandalasModel", "states", "I", false)
  | 11 => ("SandMandalasModel", "orders", "I", false)
  | _ => ("SandMandalasModel", "at", "I", false)
def tyX8 : Nat → FieldType := fun k => match k with
  | 0 => .array .int
  | 1 => .array .int
  | 2 => .array .int
  | 3 => .array .int
  | 4 => .array .int
  | 5 => .array .boolean
  | 6 => .array .int
  | 7 => .array .int
  | 8 => .array .char
  | 9 => .int
  | 10 => .int
  | 11 => .int
  | _ => .int
abbrev wsX80 : List Cond := u_ws RX8 TX8 13
theorem nmX8 : ∀ a, a < 13 → ∀ b, b < 13 → a ≠ b → (TX8 a).2.1 ≠ (TX8 b).2.1 := by decide +kernel
theorem tyX8_ok : ∀ k, k < 13 → parseFieldDescriptor (TX8 k).2.2.1 = some (tyX8 k) := by decide +kernel
abbrev cX8_init : ByteArray := prog_10_method_1_code
def yX8_init : MethodName := ⟨RX8, "<init>", "()V"⟩
abbrev cX8_in : ByteArray := prog_10_method_2_code
def yX8_in : MethodName := ⟨RX8, "in", "(III)Z"⟩
abbrev cX8_p : ByteArray := prog_10_method_3_code
def yX8_p : MethodName := ⟨RX8, "p", "(III)I"⟩
abbrev cX8_isQuarter : ByteArray := prog_10_method_4_code
def yX8_isQuarter : MethodName := ⟨RX8, "isQuarter", "(I)Z"⟩
abbrev cX8_isRing : ByteArray := prog_10_method_5_code
def yX8_isRing : MethodName := ⟨RX8, "isRing", "(I)Z"⟩
abbrev cX8_isColour : ByteArray := prog_10_method_6_code
def yX8_isColour : MethodName := ⟨RX8, "isColour", "(I)Z"⟩
abbrev cX8_isPlace : ByteArray := prog_10_method_7_code
def yX8_isPlace : MethodName := ⟨RX8, "isPlace", "(III)Z"⟩
abbrev cX8_hold : ByteArray := prog_10_method_8_code
def yX8_hold : MethodName := ⟨RX8, "hold", "()V"⟩
abbrev cX8_recorded : ByteArray := prog_10_method_9_code
def yX8_recorded : MethodName := ⟨RX8, "recorded", "(I)I"⟩
abbrev cX8_keepTrial : ByteArray := prog_10_method_10_code
def yX8_keepTrial : MethodName := ⟨RX8, "keepTrial", "()V"⟩
abbrev cX8_putBack : ByteArray := prog_10_method_11_code
def yX8_putBack : MethodName := ⟨RX8, "putBack", "()V"⟩
abbrev cX8_isMirrored : ByteArray := prog_10_method_12_code
def yX8_isMirrored : MethodName := ⟨RX8, "isMirrored", "(I)Z"⟩
abbrev cX8_mirrored : ByteArray := prog_10_method_13_code
def yX8_mirrored : MethodName := ⟨RX8, "mirrored", "(II)I"⟩
abbrev cX8_wanted : ByteArray := prog_10_method_14_code
def yX8_wanted : MethodName := ⟨RX8, "wanted", "(III)I"⟩
abbrev cX8_isRight : ByteArray := prog_10_method_15_code
def yX8_isRight : MethodName := ⟨RX8, "isRight", "(III)Z"⟩
abbrev cX8_missing : ByteArray := prog_10_method_16_code
def yX8_missing : MethodName := ⟨RX8, "missing", "(III)I"⟩
abbrev cX8_isWhole : ByteArray := prog_10_method_17_code
def yX8_isWhole : MethodName := ⟨RX8, "isWhole", "(I)Z"⟩
abbrev cX8_isOpen : ByteArray := prog_10_method_18_code
def yX8_isOpen : MethodName := ⟨RX8, "isOpen", "(I)Z"⟩
abbrev cX8_puts : ByteArray := prog_10_method_19_code
def yX8_puts : MethodName := ⟨RX8, "puts", "(III)V"⟩
abbrev cX8_patterns : ByteArray := prog_10_method_20_code
def yX8_patterns : MethodName := ⟨RX8, "patterns", "(II)I"⟩
abbrev cX8_holder : ByteArray := prog_10_method_21_code
def yX8_holder : MethodName := ⟨RX8, "holder", "(I)I"⟩
abbrev cX8_takes : ByteArray := prog_10_method_22_code
def yX8_takes : MethodName := ⟨RX8, "takes", "(II)I"⟩
abbrev cX8_pours : ByteArray := prog_10_method_23_code
def yX8_pours : MethodName := ⟨RX8, "pours", "(IIII)I"⟩
abbrev cX8_scrapes : ByteArray := prog_10_method_24_code
def yX8_scrapes : MethodName := ⟨RX8, "scrapes", "(III)I"⟩
abbrev cX8_spills : ByteArray := prog_10_method_25_code
def yX8_spills : MethodName := ⟨RX8, "spills", "(I)I"⟩
abbrev cX8_ringBreath : ByteArray := prog_10_method_26_code
def yX8_ringBreath : MethodName := ⟨RX8, "ringBreath", "(III)I"⟩
abbrev cX8_breathes : ByteArray := prog_10_method_27_code
def yX8_breathes : MethodName := ⟨RX8, "breathes", "(II)I"⟩
abbrev cX8_closes : ByteArray := prog_10_method_28_code
def yX8_closes : MethodName := ⟨RX8, "closes", "()I"⟩
abbrev cX8_swept : ByteArray := prog_10_method_29_code
def yX8_swept : MethodName := ⟨RX8, "swept", "(I)I"⟩
abbrev cX8_sweeps : ByteArray := prog_10_method_30_code
def yX8_sweeps : MethodName := ⟨RX8, "sweeps", "()I"⟩
abbrev cX8_set : ByteArray := prog_10_method_31_code
def yX8_set : MethodName := ⟨RX8, "set", "(II)I"⟩
abbrev cX8_pattern : ByteArray := prog_10_method_32_code
def yX8_pattern : MethodName := ⟨RX8, "pattern", "(II)I"⟩
abbrev cX8_take : ByteArray := prog_10_method_33_code
def yX8_take : MethodName := ⟨RX8, "take", "(II)I"⟩
abbrev cX8_fill : ByteArray := prog_10_method_34_code
def yX8_fill : MethodName := ⟨RX8, "fill", "(II)I"⟩
abbrev cX8_pour : ByteArray := prog_10_method_35_code
def yX8_pour : MethodName := ⟨RX8, "pour", "(IIII)I"⟩
abbrev cX8_scrape : ByteArray := prog_10_method_36_code
def yX8_scrape : MethodName := ⟨RX8, "scrape", "(III)I"⟩
abbrev cX8_breathe : ByteArray := prog_10_method_37_code
def yX8_breathe : MethodName := ⟨RX8, "breathe", "(II)I"⟩
abbrev cX8_close : ByteArray := prog_10_method_38_code
def yX8_close : MethodName := ⟨RX8, "close", "()I"⟩
abbrev cX8_sweep : ByteArray := prog_10_method_39_code
def yX8_sweep : MethodName := ⟨RX8, "sweep", "()I"⟩
abbrev cX8_at : ByteArray := prog_10_method_40_code
def yX8_at : MethodName := ⟨RX8, "at", "(IIII)I"⟩
abbrev cX8_unlike : ByteArray := prog_10_method_41_code
def yX8_unlike : MethodName := ⟨RX8, "unlike", "(I)I"⟩
abbrev cX8_ofPlaces : ByteArray := prog_10_method_42_code
def yX8_ofPlaces : MethodName := ⟨RX8, "ofPlaces", "(II)I"⟩
abbrev cX8_ofRing : ByteArray := prog_10_method_43_code
def yX8_ofRing : MethodName := ⟨RX8, "ofRing", "(II)I"⟩
abbrev cX8_ofPlacesIn : ByteArray := prog_10_method_44_code
def yX8_ofPlacesIn : MethodName := ⟨RX8, "ofPlacesIn", "(II)I"⟩
abbrev cX8_isSwept : ByteArray := prog_10_method_45_code
def yX8_isSwept : MethodName := ⟨RX8, "isSwept", "(I)Z"⟩
abbrev cX8_ofQuarter : ByteArray := prog_10_method_46_code
def yX8_ofQuarter : MethodName := ⟨RX8, "ofQuarter", "(II)I"⟩
abbrev cX8_ofAll : ByteArray := prog_10_method_47_code
def yX8_ofAll : MethodName := ⟨RX8, "ofAll", "(II)I"⟩
abbrev cX8_ofColour : ByteArray := prog_10_method_48_code
def yX8_ofColour : MethodName := ⟨RX8, "ofColour", "(II)I"⟩
abbrev cX8_grains : ByteArray := prog_10_method_49_code
def yX8_grains : MethodName := ⟨RX8, "grains", "()I"⟩
abbrev cX8_whole : ByteArray := prog_10_method_50_code
def yX8_whole : MethodName := ⟨RX8, "whole", "()I"⟩
abbrev cX8_count : ByteArray := prog_10_method_51_code
def yX8_count : MethodName := ⟨RX8, "count", "(I)I"⟩
abbrev cX8_needed : ByteArray := prog_10_method_52_code
def yX8_needed : MethodName := ⟨RX8, "needed", "(I)I"⟩
abbrev cX8_lacking : ByteArray := prog_10_method_53_code
def yX8_lacking : MethodName := ⟨RX8, "lacking", "()I"⟩
abbrev cX8_turned : ByteArray := prog_10_method_54_code
def yX8_turned : MethodName := ⟨RX8, "turned", "(IIIZZ)I"⟩
abbrev cX8_ifBreathed : ByteArray := prog_10_method_55_code
def yX8_ifBreathed : MethodName := ⟨RX8, "ifBreathed", "(III)I"⟩
abbrev cX8_changes : ByteArray := prog_10_method_56_code
def yX8_changes : MethodName := ⟨RX8, "changes", "(II)Z"⟩
abbrev cX8_settles : ByteArray := prog_10_method_57_code
def yX8_settles : MethodName := ⟨RX8, "settles", "(II)I"⟩
abbrev cX8_best : ByteArray := prog_10_method_58_code
def yX8_best : MethodName := ⟨RX8, "best", "()I"⟩
abbrev cX8_isSign : ByteArray := prog_10_method_59_code
def yX8_isSign : MethodName := ⟨RX8, "isSign", "(CC)Z"⟩
abbrev cX8_accepts : ByteArray := prog_10_method_60_code
def yX8_accepts : MethodName := ⟨RX8, "accepts", "(C)Z"⟩
abbrev cX8_digit : ByteArray := prog_10_method_61_code
def yX8_digit : MethodName := ⟨RX8, "digit", "(ICC)Z"⟩
abbrev cX8_number : ByteArray := prog_10_method_62_code
def yX8_number : MethodName := ⟨RX8, "number", "(I)Z"⟩
abbrev cX8_colours : ByteArray := prog_10_method_63_code
def yX8_colours : MethodName := ⟨RX8, "colours", "()Z"⟩
abbrev cX8_direction : ByteArray := prog_10_method_64_code
def yX8_direction : MethodName := ⟨RX8, "direction", "()Z"⟩
abbrev cX8_readsOrder : ByteArray := prog_10_method_65_code
def yX8_readsOrder : MethodName := ⟨RX8, "readsOrder", "()Z"⟩
abbrev cX8_faultOf : ByteArray := prog_10_method_66_code
def yX8_faultOf : MethodName := ⟨RX8, "faultOf", "()I"⟩
abbrev cX8_does : ByteArray := prog_10_method_67_code
def yX8_does : MethodName := ⟨RX8, "does", "(I)I"⟩
abbrev cX8_put : ByteArray := prog_10_method_68_code
def yX8_put : MethodName := ⟨RX8, "put", "(J)I"⟩
abbrev cX8_wipe : ByteArray := prog_10_method_69_code
def yX8_wipe : MethodName := ⟨RX8, "wipe", "()I"⟩
abbrev cX8_fault : ByteArray := prog_10_method_70_code
def yX8_fault : MethodName := ⟨RX8, "fault", "()I"⟩
abbrev cX8_carryOut : ByteArray := prog_10_method_71_code
def yX8_carryOut : MethodName := ⟨RX8, "carryOut", "()I"⟩
abbrev cX8_undo : ByteArray := prog_10_method_72_code
def yX8_undo : MethodName := ⟨RX8, "undo", "()I"⟩
abbrev cX8_save : ByteArray := prog_10_method_73_code
def yX8_save : MethodName := ⟨RX8, "save", "(I)I"⟩
abbrev cX8_restore : ByteArray := prog_10_method_74_code
def yX8_restore : MethodName := ⟨RX8, "restore", "(I)I"⟩
def RJ9 : String := "java/lang/Math"
def TJ9 : u_T := fun k => match k with
  | _ => ("", "", "", false)
def tyJ9 : Nat → FieldType := fun k => match k with
  | _ => .int
abbrev wsJ90 : List Cond := u_ws RJ9 TJ9 0
theorem nmJ9 : ∀ a, a < 0 → ∀ b, b < 0 → a ≠ b → (TJ9 a).2.1 ≠ (TJ9 b).2.1 := by decide +kernel
theorem tyJ9_ok : ∀ k, k < 0 → parseFieldDescriptor (TJ9 k).2.2.1 = some (tyJ9 k) := by decide +kernel
abbrev cJ9_max_7cf53 : ByteArray := prog_11_method_65_code
def yJ9_max_7cf53 : MethodName := ⟨RJ9, "max", "(II)I"⟩
abbrev cJ9_min_7cf53 : ByteArray := prog_11_method_69_code
def yJ9_min_7cf53 : MethodName := ⟨RJ9, "min", "(II)I"⟩
def RJ0 : String := "java/lang/String"
def TJ0 : u_T := fun k => match k with
  | _ => ("", "", "", false)
def tyJ0 : Nat → FieldType := fun k => match k with
  | _ => .int
abbrev wsJ00 : List Cond := u_ws RJ0 TJ0 0
theorem nmJ0 : ∀ a, a < 0 → ∀ b, b < 0 → a ≠ b → (TJ0 a).2.1 ≠ (TJ0 b).2.1 := by decide +kernel
theorem tyJ0_ok : ∀ k, k < 0 → parseFieldDescriptor (TJ0 k).2.2.1 = some (tyJ0 k) := by decide +kernel
abbrev cJ0_length_8abf5 : ByteArray := prog_12_method_54_code
def yJ0_length_8abf5 : MethodName := ⟨RJ0, "length", "()I"⟩
abbrev cJ0_isEmpty_aae02 : ByteArray := prog_12_method_55_code
def yJ0_isEmpty_aae02 : MethodName := ⟨RJ0, "isEmpty", "()Z"⟩
abbrev cJ0_charAt_5068e : ByteArray := prog_12_method_56_code
def yJ0_charAt_5068e : MethodName := ⟨RJ0, "charAt", "(I)C"⟩
abbrev cJ0_coder_7d493 : ByteArray := prog_12_method_152_code
def yJ0_coder_7d493 : MethodName := ⟨RJ0, "coder", "()B"⟩
abbrev cJ0_isLatin1_aae02 : ByteArray := prog_12_method_154_code
def yJ0_isLatin1_aae02 : MethodName := ⟨RJ0, "isLatin1", "()Z"⟩
abbrev cJ0_checkIndex_df160 : ByteArray := prog_12_method_155_code
def yJ0_checkIndex_df160 : MethodName := ⟨RJ0, "checkIndex", "(II)V"⟩
def RJ1 : String := "java/lang/StringLatin1"
def TJ1 : u_T := fun k => match k with
  | _ => ("", "", "", false)
def tyJ1 : Nat → FieldType := fun k => match k with
  | _ => .int
abbrev wsJ10 : List Cond := u_ws RJ1 TJ1 0
theorem nmJ1 : ∀ a, a < 0 → ∀ b, b < 0 → a ≠ b → (TJ1 a).2.1 ≠ (TJ1 b).2.1 := by decide +kernel
theorem tyJ1_ok : ∀ k, k < 0 → parseFieldDescriptor (TJ1 k).2.2.1 = some (tyJ1 k) := by decide +kernel
abbrev cJ1_charAt_3b067 : ByteArray := prog_13_method_2_code
def yJ1_charAt_3b067 : MethodName := ⟨RJ1, "charAt", "([BI)C"⟩
def RJ2 : String := "java/lang/StringUTF16"
def TJ2 : u_T := fun k => match k with
  | _ => ("", "", "", false)
def tyJ2 : Nat → FieldType := fun k => match k with
  | _ => .int
abbrev wsJ20 : List Cond := u_ws RJ2 TJ2 0
theorem nmJ2 : ∀ a, a < 0 → ∀ b, b < 0 → a ≠ b → (TJ2 a).2.1 ≠ (TJ2 b).2.1 := by decide +kernel
theorem tyJ2_ok : ∀ k, k < 0 → parseFieldDescriptor (TJ2 k).2.2.1 = some (tyJ2 k) := by decide +kernel
abbrev cJ2_getChar_3b067 : ByteArray := prog_14_method_5_code
def yJ2_getChar_3b067 : MethodName := ⟨RJ2, "getChar", "([BI)C"⟩
abbrev cJ2_length_9d52b : ByteArray := prog_14_method_6_code
def yJ2_length_9d52b : MethodName := ⟨RJ2, "length", "([B)I"⟩
abbrev cJ2_charAt_3b067 : ByteArray := prog_14_method_83_code
def yJ2_charAt_3b067 : MethodName := ⟨RJ2, "charAt", "([BI)C"⟩
abbrev cJ2_checkIndex_2214a : ByteArray := prog_14_method_91_code
def yJ2_checkIndex_2214a : MethodName := ⟨RJ2, "checkIndex", "(I[B)V"⟩
def RJ10 : String := "java/lang/System"
def TJ10 : u_T := fun k => match k with
  | _ => ("", "", "", false)
def tyJ10 : Nat → FieldType := fun k => match k with
  | _ => .int
abbrev wsJ100 : List Cond := u_ws RJ10 TJ10 0
theorem nmJ10 : ∀ a, a < 0 → ∀ b, b < 0 → a ≠ b → (TJ10 a).2.1 ≠ (TJ10 b).2.1 := by decide +kernel
theorem tyJ10_ok : ∀ k, k < 0 → parseFieldDescriptor (TJ10 k).2.2.1 = some (tyJ10 k) := by decide +kernel
def RJ3 : String := "jdk/internal/util/Preconditions"
def TJ3 : u_T := fun k => match k with
  | _ => ("", "", "", false)
def tyJ3 : Nat → FieldType := fun k => match k with
  | _ => .int
abbrev wsJ30 : List Cond := u_ws RJ3 TJ3 0
theorem nmJ3 : ∀ a, a < 0 → ∀ b, b < 0 → a ≠ b → (TJ3 a).2.1 ≠ (TJ3 b).2.1 := by decide +kernel
theorem tyJ3_ok : ∀ k, k < 0 → parseFieldDescriptor (TJ3 k).2.2.1 = some (tyJ3 k) := by decide +kernel
abbrev cJ3_checkIndex_8e157 : ByteArray := prog_16_method_11_code
def yJ3_checkIndex_8e157 : MethodName := ⟨RJ3, "checkIndex", "(IILjava/util/function/BiFunction;)I"⟩
def RL : String := "SandMandalasLaw"
abbrev cL_law : ByteArray := code
def yL_law : MethodName := ⟨RL, "law", "([I)Z"⟩
abbrev vwCl : List vw_C := [(RX0, TX0, 3), (RX2, TX2, 4), (RX4, TX4, 2), (RX5, TX5, 1), (RX7, TX7, 5), (RX8, TX8, 13)]
theorem inX0 : ∀ w ∈ wsX00, w ∈ lw_tbl := by decide +kernel
theorem inX2 : ∀ w ∈ wsX20, w ∈ lw_tbl := by decide +kernel
theorem inX4 : ∀ w ∈ wsX40, w ∈ lw_tbl := by decide +kernel
theorem inX5 : ∀ w ∈ wsX50, w ∈ lw_tbl := by decide +kernel
theorem inX7 : ∀ w ∈ wsX70, w ∈ lw_tbl := by decide +kernel
theorem inX8 : ∀ w ∈ wsX80, w ∈ lw_tbl := by decide +kernel
end
section
theorem dX0_init_0 : decode cX0_init 0 = .ok (.aload_n 0, 1) := by decide +kernel
theorem dX0_init_1 : decode cX0_init 1 = .ok (.invokespecial 3, 3) := by decide +kernel
theorem dX0_init_4 : decode cX0_init 4 = .ok (.aload_n 0, 1) := by decide +kernel
theorem dX0_init_5 : decode cX0_init 5 = .ok (.bipush 8, 2) := by decide +kernel
theorem dX0_init_7 : decode cX0_init 7 = .ok (.newarray .int, 2) := by decide +kernel
theorem dX0_init_9 : decode cX0_init 9 = .ok (.putfield 9, 3) := by decide +kernel
theorem dX0_init_12 : decode cX0_init 12 = .ok (.aload_n 0, 1) := by decide +kernel
theorem dX0_init_13 : decode cX0_init 13 = .ok (.bipush 8, 2) := by decide +kernel
theorem dX0_init_15 : decode cX0_init 15 = .ok (.newarray .int, 2) := by decide +kernel
theorem dX0_init_17 : decode cX0_init 17 = .ok (.putfield 15, 3) := by decide +kernel
theorem dX0_init_20 : decode cX0_init 20 = .ok (.return_, 1) := by decide +kernel
theorem dX0_over_0 : decode cX0_over 0 = .ok (.aload_n 0, 1) := by decide +kernel
theorem dX0_over_1 : decode cX0_over 1 = .ok (.iconst 0, 1) := by decide +kernel
theorem dX0_over_2 : decode cX0_over 2 = .ok (.putfield 18, 3) := by decide +kernel
theorem dX0_over_5 : decode cX0_over 5 = .ok (.iconst 0, 1) := by decide +kernel
theorem dX0_over_6 : decode cX0_over 6 = .ok (.istore 4, 2) := by decide +kernel
theorem dX0_over_8 : decode cX0_over 8 = .ok (.aload_n 1, 1) := by decide +kernel
theorem dX0_over_9 : decode cX0_over 9 = .ok (.bipush 19, 2) := by decide +kernel
theorem dX0_over_11 : decode cX0_over 11 = .ok (.invokevirtual 24, 3) := by decide +kernel
theorem dX0_over_14 : decode cX0_over 14 = .ok (.istore 5, 2) := by decide +kernel
theorem dX0_over_16 : decode cX0_over 16 = .ok (.iload 5, 2) := by decide +kernel
theorem dX0_over_18 : decode cX0_over 18 = .ok (.iconst 5, 1) := by decide +kernel
theorem dX0_over_19 : decode cX0_over 19 = .ok (.if_icmp .ge 49, 3) := by decide +kernel
theorem dX0_over_22 : decode cX0_over 22 = .ok (.aload_n 0, 1) := by decide +kernel
theorem dX0_over_23 : decode cX0_over 23 = .ok (.aload_n 1, 1) := by decide +kernel
theorem dX0_over_24 : decode cX0_over 24 = .ok (.iload_n 2, 1) := by decide +kernel
theorem dX0_over_25 : decode cX0_over 25 = .ok (.iload 5, 2) := by decide +kernel
theorem dX0_over_27 : decode cX0_over 27 = .ok (.invokevirtual 28, 3) := by decide +kernel
theorem dX0_over_30 : decode cX0_over 30 = .ok (.iconst 0, 1) := by decide +kernel
theorem dX0_over_31 : decode cX0_over 31 = .ok (.istore 6, 2) := by decide +kernel
theorem dX0_over_33 : decode cX0_over 33 = .ok (.iload 6, 2) := by decide +kernel
theorem dX0_over_35 : decode cX0_over 35 = .ok (.bipush 8, 2) := by decide +kernel
theorem dX0_over_37 : decode cX0_over 37 = .ok (.if_icmp .ge 25, 3) := by decide +kernel
theorem dX0_over_40 : decode cX0_over 40 = .ok (.iload 4, 2) := by decide +kernel
theorem dX0_over_42 : decode cX0_over 42 = .ok (.aload_n 0, 1) := by decide +kernel
theorem dX0_over_43 : decode cX0_over 43 = .ok (.aload_n 1, 1) := by decide +kernel
theorem dX0_over_44 : decode cX0_over 44 = .ok (.iload_n 2, 1) := by decide +kernel
theorem dX0_over_45 : decode cX0_over 45 = .ok (.iload 5, 2) := by decide +kernel
theorem dX0_over_47 : decode cX0_over 47 = .ok (.iload 6, 2) := by decide +kernel
theorem dX0_over_49 : decode cX0_over 49 = .ok (.iload_n 3, 1) := by decide +kernel
theorem dX0_over_50 : decode cX0_over 50 = .ok (.invokevirtual 32, 3) := by decide +kernel
theorem dX0_over_53 : decode cX0_over 53 = .ok (.iadd, 1) := by decide +kernel
theorem dX0_over_54 : decode cX0_over 54 = .ok (.istore 4, 2) := by decide +kernel
theorem dX0_over_56 : decode cX0_over 56 = .ok (.iinc 6 1, 3) := by decide +kernel
theorem dX0_over_59 : decode cX0_over 59 = .ok (.goto (-26), 3) := by decide +kernel
theorem dX0_over_62 : decode cX0_over 62 = .ok (.iinc 5 1, 3) := by decide +kernel
theorem dX0_over_65 : decode cX0_over 65 = .ok (.goto (-49), 3) := by decide +kernel
theorem dX0_over_68 : decode cX0_over 68 = .ok (.iload 4, 2) := by decide +kernel
theorem dX0_over_70 : decode cX0_over 70 = .ok (.ireturn, 1) := by decide +kernel
theorem dX0_changedSomething_0 : decode cX0_changedSomething 0 = .ok (.aload_n 0, 1) := by decide +kernel
theorem dX0_changedSomething_1 : decode cX0_changedSomething 1 = .ok (.getfield 18, 3) := by decide +kernel
theorem dX0_changedSomething_4 : decode cX0_changedSomething 4 = .ok (.ireturn, 1) := by decide +kernel
theorem dX0_rememberRing_0 : decode cX0_rememberRing 0 = .ok (.iconst 0, 1) := by decide +kernel
theorem dX0_rememberRing_1 : decode cX0_rememberRing 1 = .ok (.istore 4, 2) := by decide +kernel
theorem dX0_rememberRing_3 : decode cX0_rememberRing 3 = .ok (.iload 4, 2) := by decide +kernel
theorem dX0_rememberRing_5 : decode cX0_rememberRing 5 = .ok (.aload_n 0, 1) := by decide +kernel
theorem dX0_rememberRing_6 : decode cX0_rememberRing 6 = .ok (.getfield 9, 3) := by decide +kernel
theorem dX0_rememberRing_9 : decode cX0_rememberRing 9 = .ok (.arraylength, 1) := by decide +kernel
theorem dX0_rememberRing_10 : decode cX0_rememberRing 10 = .ok (.if_icmp .ge 49, 3) := by decide +kernel
theorem dX0_rememberRing_13 : decode cX0_rememberRing 13 = .ok (.iload 4, 2) := by decide +kernel
theorem dX0_rememberRing_15 : decode cX0_rememberRing 15 = .ok (.aload_n 0, 1) := by decide +kernel
theorem dX0_rememberRing_16 : decode cX0_rememberRing 16 = .ok (.getfield 15, 3) := by decide +kernel
theorem dX0_rememberRing_19 : decode cX0_rememberRing 19 = .ok (.arraylength, 1) := by decide +kernel
theorem dX0_rememberRing_20 : decode cX0_rememberRing 20 = .ok (.if_icmp .ge 39, 3) := by decide +kernel
theorem dX0_rememberRing_23 : decode cX0_rememberRing 23 = .ok (.aload_n 0, 1) := by decide +kernel
theorem dX0_rememberRing_24 : decode cX0_rememberRing 24 = .ok (.getfield 9, 3) := by decide +kernel
theorem dX0_rememberRing_27 : decode cX0_rememberRing 27 = .ok (.iload 4, 2) := by decide +kernel
theorem dX0_rememberRing_29 : decode cX0_rememberRing 29 = .ok (.aload_n 1, 1) := by decide +kernel
theorem dX0_rememberRing_30 : decode cX0_rememberRing 30 = .ok (.iload_n 2, 1) := by decide +kernel
theorem dX0_rememberRing_31 : decode cX0_rememberRing 31 = .ok (.iload_n 3, 1) := by decide +kernel
theorem dX0_rememberRing_32 : decode cX0_rememberRing 32 = .ok (.iload 4, 2) := by decide +kernel
theorem dX0_rememberRing_34 : decode cX0_rememberRing 34 = .ok (.invokevirtual 36, 3) := by decide +kernel
theorem dX0_rememberRing_37 : decode cX0_rememberRing 37 = .ok (.iastore, 1) := by decide +kernel
theorem dX0_rememberRing_38 : decode cX0_rememberRing 38 = .ok (.aload_n 0, 1) := by decide +kernel
theorem dX0_rememberRing_39 : decode cX0_rememberRing 39 = .ok (.getfield 15, 3) := by decide +kernel
theorem dX0_rememberRing_42 : decode cX0_rememberRing 42 = .ok (.iload 4, 2) := by decide +kernel
theorem dX0_rememberRing_44 : decode cX0_rememberRing 44 = .ok (.aload_n 1, 1) := by decide +kernel
theorem dX0_rememberRing_45 : decode cX0_rememberRing 45 = .ok (.iload_n 2, 1) := by decide +kernel
theorem dX0_rememberRing_46 : decode cX0_rememberRing 46 = .ok (.iload_n 3, 1) := by decide +kernel
theorem dX0_rememberRing_47 : decode cX0_rememberRing 47 = .ok (.iload 4, 2) := by decide +kernel
theorem dX0_rememberRing_49 : decode cX0_rememberRing 49 = .ok (.invokevirtual 40, 3) := by decide +kernel
theorem dX0_rememberRing_52 : decode cX0_rememberRing 52 = .ok (.iastore, 1) := by decide +kernel
theorem dX0_rememberRing_53 : decode cX0_rememberRing 53 = .ok (.iinc 4 1, 3) := by decide +kernel
theorem dX0_rememberRing_56 : decode cX0_rememberRing 56 = .ok (.goto (-53), 3) := by decide +kernel
theorem dX0_rememberRing_59 : decode cX0_rememberRing 59 = .ok (.return_, 1) := by decide +kernel
theorem dX0_overPlace_0 : decode cX0_overPlace 0 = .ok (.iload 5, 2) := by decide +kernel
theorem dX0_overPlace_2 : decode cX0_overPlace 2 = .ok (.iconst 1, 1) := by decide +kernel
theorem dX0_overPlace_3 : decode cX0_overPlace 3 = .ok (.if_icmp .ne 13, 3) := by decide +kernel
theorem dX0_overPlace_6 : decode cX0_overPlace 6 = .ok (.iload 4, 2) := by decide +kernel
theorem dX0_overPlace_8 : decode cX0_overPlace 8 = .ok (.iconst 1, 1) := by decide +kernel
theorem dX0_overPlace_9 : decode cX0_overPlace 9 = .ok (.iadd, 1) := by decide +kernel
theorem dX0_overPlace_10 : decode cX0_overPlace 10 = .ok (.bipush 8, 2) := by decide +kernel
theorem dX0_overPlace_12 : decode cX0_overPlace 12 = .ok (.irem, 1) := by decide +kernel
theorem dX0_overPlace_13 : decode cX0_overPlace 13 = .ok (.goto 13, 3) := by decide +kernel
theorem dX0_overPlace_16 : decode cX0_overPlace 16 = .ok (.iload 4, 2) := by decide +kernel
theorem dX0_overPlace_18 : decode cX0_overPlace 18 = .ok (.bipush 8, 2) := by decide +kernel
theorem dX0_overPlace_20 : decode cX0_overPlace 20 = .ok (.iadd, 1) := by decide +kernel
theorem dX0_overPlace_21 : decode cX0_overPlace 21 = .ok (.iconst 1, 1) := by decide +kernel
theorem dX0_overPlace_22 : decode cX0_overPlace 22 = .ok (.isub, 1) := by decide +kernel
theorem dX0_overPlace_23 : decode cX0_overPlace 23 = .ok (.bipush 8, 2) := by decide +kernel
theorem dX0_overPlace_25 : decode cX0_overPlace 25 = .ok (.irem, 1) := by decide +kernel
theorem dX0_overPlace_26 : decode cX0_overPlace 26 = .ok (.istore 6, 2) := by decide +kernel
theorem dX0_overPlace_28 : decode cX0_overPlace 28 = .ok (.aload_n 1, 1) := by decide +kernel
theorem dX0_overPlace_29 : decode cX0_overPlace 29 = .ok (.iconst 1, 1) := by decide +kernel
theorem dX0_overPlace_30 : decode cX0_overPlace 30 = .ok (.invokevirtual 43, 3) := by decide +kernel
theorem dX0_overPlace_33 : decode cX0_overPlace 33 = .ok (.istore 7, 2) := by decide +kernel
theorem dX0_overPlace_35 : decode cX0_overPlace 35 = .ok (.aload_n 0, 1) := by decide +kernel
theorem dX0_overPlace_36 : decode cX0_overPlace 36 = .ok (.getfield 15, 3) := by decide +kernel
theorem dX0_overPlace_39 : decode cX0_overPlace 39 = .ok (.iload 4, 2) := by decide +kernel
theorem dX0_overPlace_41 : decode cX0_overPlace 41 = .ok (.invokestatic 46, 3) := by decide +kernel
theorem dX0_overPlace_44 : decode cX0_overPlace 44 = .ok (.istore 8, 2) := by decide +kernel
theorem dX0_overPlace_46 : decode cX0_overPlace 46 = .ok (.aload_n 0, 1) := by decide +kernel
theorem dX0_overPlace_47 : decode cX0_overPlace 47 = .ok (.getfield 9, 3) := by decide +kernel
theorem dX0_overPlace_50 : decode cX0_overPlace 50 = .ok (.iload 6, 2) := by decide +kernel
theorem dX0_overPlace_52 : decode cX0_overPlace 52 = .ok (.invokestatic 46, 3) := by decide +kernel
theorem dX0_overPlace_55 : decode cX0_overPlace 55 = .ok (.iload 7, 2) := by decide +kernel
theorem dX0_overPlace_57 : decode cX0_overPlace 57 = .ok (.invokestatic 50, 3) := by decide +kernel
theorem dX0_overPlace_60 : decode cX0_overPlace 60 = .ok (.istore 9, 2) := by decide +kernel
theorem dX0_overPlace_62 : decode cX0_overPlace 62 = .ok (.aload_n 0, 1) := by decide +kernel
theorem dX0_overPlace_63 : decode cX0_overPlace 63 = .ok (.getfield 9, 3) := by decide +kernel
theorem dX0_overPlace_66 : decode cX0_overPlace 66 = .ok (.iload 4, 2) := by decide +kernel
theorem dX0_overPlace_68 : decode cX0_overPlace 68 = .ok (.invokestatic 46, 3) := by decide +kernel
theorem dX0_overPlace_71 : decode cX0_overPlace 71 = .ok (.aload_n 0, 1) := by decide +kernel
theorem dX0_overPlace_72 : decode cX0_overPlace 72 = .ok (.getfield 9, 3) := by decide +kernel
theorem dX0_overPlace_75 : decode cX0_overPlace 75 = .ok (.iload 4, 2) := by decide +kernel
theorem dX0_overPlace_77 : decode cX0_overPlace 77 = .ok (.invokestatic 46, 3) := by decide +kernel
theorem dX0_overPlace_80 : decode cX0_overPlace 80 = .ok (.iload 7, 2) := by decide +kernel
theorem dX0_overPlace_82 : decode cX0_overPlace 82 = .ok (.invokestatic 50, 3) := by decide +kernel
theorem dX0_overPlace_85 : decode cX0_overPlace 85 = .ok (.isub, 1) := by decide +kernel
theorem dX0_overPlace_86 : decode cX0_overPlace 86 = .ok (.istore 10, 2) := by decide +kernel
theorem dX0_overPlace_88 : decode cX0_overPlace 88 = .ok (.iload 8, 2) := by decide +kernel
theorem dX0_overPlace_90 : decode cX0_overPlace 90 = .ok (.ifCond .ne 14, 3) := by decide +kernel
theorem dX0_overPlace_93 : decode cX0_overPlace 93 = .ok (.aload_n 0, 1) := by decide +kernel
theorem dX0_overPlace_94 : decode cX0_overPlace 94 = .ok (.getfield 15, 3) := by decide +kernel
theorem dX0_overPlace_97 : decode cX0_overPlace 97 = .ok (.iload 6, 2) := by decide +kernel
theorem dX0_overPlace_99 : decode cX0_overPlace 99 = .ok (.invokestatic 46, 3) := by decide +kernel
theorem dX0_overPlace_102 : decode cX0_overPlace 102 = .ok (.istore 8, 2) := by decide +kernel
theorem dX0_overPlace_104 : decode cX0_overPlace 104 = .ok (.iload 8, 2) := by decide +kernel
theorem dX0_overPlace_106 : decode cX0_overPlace 106 = .ok (.aload_n 0, 1) := by decide +kernel
theorem dX0_overPlace_107 : decode cX0_overPlace 107 = .ok (.getfield 15, 3) := by decide +kernel
theorem dX0_overPlace_110 : decode cX0_overPlace 110 = .ok (.iload 6, 2) := by decide +kernel
theorem dX0_overPlace_112 : decode cX0_overPlace 112 = .ok (.invokestatic 46, 3) := by decide +kernel
theorem dX0_overPlace_115 : decode cX0_overPlace 115 = .ok (.if_icmp .ne 7, 3) := by decide +kernel
theorem dX0_overPlace_118 : decode cX0_overPlace 118 = .ok (.iconst 1, 1) := by decide +kernel
theorem dX0_overPlace_119 : decode cX0_overPlace 119 = .ok (.goto 4, 3) := by decide +kernel
theorem dX0_overPlace_122 : decode cX0_overPlace 122 = .ok (.iconst 0, 1) := by decide +kernel
theorem dX0_overPlace_123 : decode cX0_overPlace 123 = .ok (.istore 11, 2) := by decide +kernel
theorem dX0_overPlace_125 : decode cX0_overPlace 125 = .ok (.iload 11, 2) := by decide +kernel
theorem dX0_overPlace_127 : decode cX0_overPlace 127 = .ok (.ifCond .eq 11, 3) := by decide +kernel
theorem dX0_overPlace_130 : decode cX0_overPlace 130 = .ok (.iload 10, 2) := by decide +kernel
theorem dX0_overPlace_132 : decode cX0_overPlace 132 = .ok (.iload 9, 2) := by decide +kernel
theorem dX0_overPlace_134 : decode cX0_overPlace 134 = .ok (.iadd, 1) := by decide +kernel
theorem dX0_overPlace_135 : decode cX0_overPlace 135 = .ok (.goto 5, 3) := by decide +kernel
theorem dX0_overPlace_138 : decode cX0_overPlace 138 = .ok (.iload 10, 2) := by decide +kernel
theorem dX0_overPlace_140 : decode cX0_overPlace 140 = .ok (.istore 12, 2) := by decide +kernel
theorem dX0_overPlace_142 : decode cX0_overPlace 142 = .ok (.bipush 99, 2) := by decide +kernel
theorem dX0_overPlace_144 : decode cX0_overPlace 144 = .ok (.iload 12, 2) := by decide +kernel
theorem dX0_overPlace_146 : decode cX0_overPlace 146 = .ok (.invokestatic 54, 3) := by decide +kernel
theorem dX0_overPlace_149 : decode cX0_overPlace 149 = .ok (.istore 13, 2) := by decide +kernel
theorem dX0_overPlace_151 : decode cX0_overPlace 151 = .ok (.iload 13, 2) := by decide +kernel
theorem dX0_overPlace_153 : decode cX0_overPlace 153 = .ok (.aload_n 0, 1) := by decide +kernel
theorem dX0_overPlace_154 : decode cX0_overPlace 154 = .ok (.getfield 9, 3) := by decide +kernel
theorem dX0_overPlace_157 : decode cX0_overPlace 157 = .ok (.iload 4, 2) := by decide +kernel
theorem dX0_overPlace_159 : decode cX0_overPlace 159 = .ok (.invokestatic 46, 3) := by decide +kernel
theorem dX0_overPlace_162 : decode cX0_overPlace 162 = .ok (.if_icmp .eq 8, 3) := by decide +kernel
theorem dX0_overPlace_165 : decode cX0_overPlace 165 = .ok (.aload_n 0, 1) := by decide +kernel
theorem dX0_overPlace_166 : decode cX0_overPlace 166 = .ok (.iconst 1, 1) := by decide +kernel
theorem dX0_overPlace_167 : decode cX0_overPlace 167 = .ok (.putfield 18, 3) := by decide +kernel
theorem dX0_overPlace_170 : decode cX0_overPlace 170 = .ok (.aload_n 1, 1) := by decide +kernel
theorem dX0_overPlace_171 : decode cX0_overPlace 171 = .ok (.iload_n 2, 1) := by decide +kernel
theorem dX0_overPlace_172 : decode cX0_overPlace 172 = .ok (.iload_n 3, 1) := by decide +kernel
theorem dX0_overPlace_173 : decode cX0_overPlace 173 = .ok (.iload 4, 2) := by decide +kernel
theorem dX0_overPlace_175 : decode cX0_overPlace 175 = .ok (.iload 8, 2) := by decide +kernel
theorem dX0_overPlace_177 : decode cX0_overPlace 177 = .ok (.iload 13, 2) := by decide +kernel
theorem dX0_overPlace_179 : decode cX0_overPlace 179 = .ok (.invokevirtual 59, 3) := by decide +kernel
theorem dX0_overPlace_182 : decode cX0_overPlace 182 = .ok (.iload 12, 2) := by decide +kernel
theorem dX0_overPlace_184 : decode cX0_overPlace 184 = .ok (.iload 13, 2) := by decide +kernel
theorem dX0_overPlace_186 : decode cX0_overPlace 186 = .ok (.isub, 1) := by decide +kernel
theorem dX0_overPlace_187 : decode cX0_overPlace 187 = .ok (.iload 11, 2) := by decide +kernel
theorem dX0_overPlace_189 : decode cX0_overPlace 189 = .ok (.ifCond .eq 7, 3) := by decide +kernel
theorem dX0_overPlace_192 : decode cX0_overPlace 192 = .ok (.iconst 0, 1) := by decide +kernel
theorem dX0_overPlace_193 : decode cX0_overPlace 193 = .ok (.goto 5, 3) := by decide +kernel
theorem dX0_overPlace_196 : decode cX0_overPlace 196 = .ok (.iload 9, 2) := by decide +kernel
theorem dX0_overPlace_198 : decode cX0_overPlace 198 = .ok (.iadd, 1) := by decide +kernel
theorem dX0_overPlace_199 : decode cX0_overPlace 199 = .ok (.ireturn, 1) := by decide +kernel
theorem dX0_remembered_0 : decode cX0_remembered 0 = .ok (.iload_n 1, 1) := by decide +kernel
theorem dX0_remembered_1 : decode cX0_remembered 1 = .ok (.ifCond .lt 15, 3) := by decide +kernel
theorem dX0_remembered_4 : decode cX0_remembered 4 = .ok (.iload_n 1, 1) := by decide +kernel
theorem dX0_remembered_5 : decode cX0_remembered 5 = .ok (.aload_n 0, 1) := by decide +kernel
theorem dX0_remembered_6 : decode cX0_remembered 6 = .ok (.arraylength, 1) := by decide +kernel
theorem dX0_remembered_7 : decode cX0_remembered 7 = .ok (.if_icmp .ge 9, 3) := by decide +kernel
theorem dX0_remembered_10 : decode cX0_remembered 10 = .ok (.aload_n 0, 1) := by decide +kernel
theorem dX0_remembered_11 : decode cX0_remembered 11 = .ok (.iload_n 1, 1) := by decide +kernel
theorem dX0_remembered_12 : decode cX0_remembered 12 = .ok (.iaload, 1) := by decide +kernel
theorem dX0_remembered_13 : decode cX0_remembered 13 = .ok (.goto 4, 3) := by decide +kernel
theorem dX0_remembered_16 : decode cX0_remembered 16 = .ok (.iconst 0, 1) := by decide +kernel
theorem dX0_remembered_17 : decode cX0_remembered 17 = .ok (.ireturn, 1) := by decide +kernel
theorem dX0_spilled_0 : decode cX0_spilled 0 = .ok (.iload_n 0, 1) := by decide +kernel
theorem dX0_spilled_1 : decode cX0_spilled 1 = .ok (.iload_n 1, 1) := by decide +kernel
theorem dX0_spilled_2 : decode cX0_spilled 2 = .ok (.if_icmp .le 11, 3) := by decide +kernel
theorem dX0_spilled_5 : decode cX0_spilled 5 = .ok (.iload_n 0, 1) := by decide +kernel
theorem dX0_spilled_6 : decode cX0_spilled 6 = .ok (.iload_n 1, 1) := by decide +kernel
theorem dX0_spilled_7 : decode cX0_spilled 7 = .ok (.isub, 1) := by decide +kernel
theorem dX0_spilled_8 : decode cX0_spilled 8 = .ok (.iconst 2, 1) := by decide +kernel
theorem dX0_spilled_9 : decode cX0_spilled 9 = .ok (.idiv, 1) := by decide +kernel
theorem dX0_spilled_10 : decode cX0_spilled 10 = .ok (.goto 4, 3) := by decide +kernel
theorem dX0_spilled_13 : decode cX0_spilled 13 = .ok (.iconst 0, 1) := by decide +kernel
theorem dX0_spilled_14 : decode cX0_spilled 14 = .ok (.ireturn, 1) := by decide +kernel
theorem dX1_quarterOfTurn_0 : decode cX1_quarterOfTurn 0 = .ok (.iload_n 0, 1) := by decide +kernel
theorem dX1_quarterOfTurn_1 : decode cX1_quarterOfTurn 1 = .ok (.ifCond .lt 19, 3) := by decide +kernel
theorem dX1_quarterOfTurn_4 : decode cX1_quarterOfTurn 4 = .ok (.iload_n 0, 1) := by decide +kernel
theorem dX1_quarterOfTurn_5 : decode cX1_quarterOfTurn 5 = .ok (.getstatic 9, 3) := by decide +kernel
theorem dX1_quarterOfTurn_8 : decode cX1_quarterOfTurn 8 = .ok (.arraylength, 1) := by decide +kernel
theorem dX1_quarterOfTurn_9 : decode cX1_quarterOfTurn 9 = .ok (.if_icmp .ge 11, 3) := by decide +kernel
theorem dX1_quarterOfTurn_12 : decode cX1_quarterOfTurn 12 = .ok (.getstatic 9, 3) := by decide +kernel
theorem dX1_quarterOfTurn_15 : decode cX1_quarterOfTurn 15 = .ok (.iload_n 0, 1) := by decide +kernel
theorem dX1_quarterOfTurn_16 : decode cX1_quarterOfTurn 16 = .ok (.iaload, 1) := by decide +kernel
theorem dX1_quarterOfTurn_17 : decode cX1_quarterOfTurn 17 = .ok (.goto 4, 3) := by decide +kernel
theorem dX1_quarterOfTurn_20 : decode cX1_quarterOfTurn 20 = .ok (.iconst (-1), 1) := by decide +kernel
theorem dX1_quarterOfTurn_21 : decode cX1_quarterOfTurn 21 = .ok (.ireturn, 1) := by decide +kernel
theorem dX1_changeSetting_0 : decode cX1_changeSetting 0 = .ok (.iload_n 1, 1) := by decide +kernel
theorem dX1_changeSetting_1 : decode cX1_changeSetting 1 = .ok (.iload_n 2, 1) := by decide +kernel
theorem dX1_changeSetting_2 : decode cX1_changeSetting 2 = .ok (.invokestatic 15, 3) := by decide +kernel
theorem dX1_changeSetting_5 : decode cX1_changeSetting 5 = .ok (.ifCond .ne 6, 3) := by decide +kernel
theorem dX1_changeSetting_8 : decode cX1_changeSetting 8 = .ok (.bipush (-2), 2) := by decide +kernel
theorem dX1_changeSetting_10 : decode cX1_changeSetting 10 = .ok (.ireturn, 1) := by decide +kernel
theorem dX1_changeSetting_11 : decode cX1_changeSetting 11 = .ok (.aload_n 0, 1) := by decide +kernel
theorem dX1_changeSetting_12 : decode cX1_changeSetting 12 = .ok (.iload_n 1, 1) := by decide +kernel
theorem dX1_changeSetting_13 : decode cX1_changeSetting 13 = .ok (.invokevirtual 19, 3) := by decide +kernel
theorem dX1_changeSetting_16 : decode cX1_changeSetting 16 = .ok (.istore_n 3, 1) := by decide +kernel
theorem dX1_changeSetting_17 : decode cX1_changeSetting 17 = .ok (.aload_n 0, 1) := by decide +kernel
theorem dX1_changeSetting_18 : decode cX1_changeSetting 18 = .ok (.iconst 0, 1) := by decide +kernel
theorem dX1_changeSetting_19 : decode cX1_changeSetting 19 = .ok (.iload_n 1, 1) := by decide +kernel
theorem dX1_changeSetting_20 : decode cX1_changeSetting 20 = .ok (.iadd, 1) := by decide +kernel
theorem dX1_changeSetting_21 : decode cX1_changeSetting 21 = .ok (.iload_n 2, 1) := by decide +kernel
theorem dX1_changeSetting_22 : decode cX1_changeSetting 22 = .ok (.invokevirtual 25, 3) := by decide +kernel
theorem dX1_changeSetting_25 : decode cX1_changeSetting 25 = .ok (.iload_n 3, 1) := by decide +kernel
theorem dX1_changeSetting_26 : decode cX1_changeSetting 26 = .ok (.ireturn, 1) := by decide +kernel
theorem dX1_isSettingValue_0 : decode cX1_isSettingValue 0 = .ok (.iload_n 0, 1) := by decide +kernel
theorem dX1_isSettingValue_1 : decode cX1_isSettingValue 1 = .ok (.tableswitch 76 0 2 #[27, 44, 61], 27) := by decide +kernel
theorem dX1_isSettingValue_28 : decode cX1_isSettingValue 28 = .ok (.iload_n 1, 1) := by decide +kernel
theorem dX1_isSettingValue_29 : decode cX1_isSettingValue 29 = .ok (.iconst 1, 1) := by decide +kernel
theorem dX1_isSettingValue_30 : decode cX1_isSettingValue 30 = .ok (.if_icmp .lt 13, 3) := by decide +kernel
theorem dX1_isSettingValue_33 : decode cX1_isSettingValue 33 = .ok (.iload_n 1, 1) := by decide +kernel
theorem dX1_isSettingValue_34 : decode cX1_isSettingValue 34 = .ok (.bipush 50, 2) := by decide +kernel
theorem dX1_isSettingValue_36 : decode cX1_isSettingValue 36 = .ok (.if_icmp .gt 7, 3) := by decide +kernel
theorem dX1_isSettingValue_39 : decode cX1_isSettingValue 39 = .ok (.iconst 1, 1) := by decide +kernel
theorem dX1_isSettingValue_40 : decode cX1_isSettingValue 40 = .ok (.goto 4, 3) := by decide +kernel
theorem dX1_isSettingValue_43 : decode cX1_isSettingValue 43 = .ok (.iconst 0, 1) := by decide +kernel
theorem dX1_isSettingValue_44 : decode cX1_isSettingValue 44 = .ok (.ireturn, 1) := by decide +kernel
theorem dX1_isSettingValue_45 : decode cX1_isSettingValue 45 = .ok (.iload_n 1, 1) := by decide +kernel
theorem dX1_isSettingValue_46 : decode cX1_isSettingValue 46 = .ok (.iconst 1, 1) := by decide +kernel
theorem dX1_isSettingValue_47 : decode cX1_isSettingValue 47 = .ok (.if_icmp .lt 13, 3) := by decide +kernel
theorem dX1_isSettingValue_50 : decode cX1_isSettingValue 50 = .ok (.iload_n 1, 1) := by decide +kernel
theorem dX1_isSettingValue_51 : decode cX1_isSettingValue 51 = .ok (.bipush 99, 2) := by decide +kernel
theorem dX1_isSettingValue_53 : decode cX1_isSettingValue 53 = .ok (.if_icmp .gt 7, 3) := by decide +kernel
theorem dX1_isSettingValue_56 : decode cX1_isSettingValue 56 = .ok (.iconst 1, 1) := by decide +kernel
theorem dX1_isSettingValue_57 : decode cX1_isSettingValue 57 = .ok (.goto 4, 3) := by decide +kernel
theorem dX1_isSettingValue_60 : decode cX1_isSettingValue 60 = .ok (.iconst 0, 1) := by decide +kernel
theorem dX1_isSettingValue_61 : decode cX1_isSettingValue 61 = .ok (.ireturn, 1) := by decide +kernel
theorem dX1_isSettingValue_62 : decode cX1_isSettingValue 62 = .ok (.iload_n 1, 1) := by decide +kernel
theorem dX1_isSettingValue_63 : decode cX1_isSettingValue 63 = .ok (.ifCond .eq 8, 3) := by decide +kernel
theorem dX1_isSettingValue_66 : decode cX1_isSettingValue 66 = .ok (.iload_n 1, 1) := by decide +kernel
theorem dX1_isSettingValue_67 : decode cX1_isSettingValue 67 = .ok (.iconst 1, 1) := by decide +kernel
theorem dX1_isSettingValue_68 : decode cX1_isSettingValue 68 = .ok (.if_icmp .ne 7, 3) := by decide +kernel
theorem dX1_isSettingValue_71 : decode cX1_isSettingValue 71 = .ok (.iconst 1, 1) := by decide +kernel
theorem dX1_isSettingValue_72 : decode cX1_isSettingValue 72 = .ok (.goto 4, 3) := by decide +kernel
theorem dX1_isSettingValue_75 : decode cX1_isSettingValue 75 = .ok (.iconst 0, 1) := by decide +kernel
theorem dX1_isSettingValue_76 : decode cX1_isSettingValue 76 = .ok (.ireturn, 1) := by decide +kernel
theorem dX1_isSettingValue_77 : decode cX1_isSettingValue 77 = .ok (.iconst 0, 1) := by decide +kernel
theorem dX1_isSettingValue_78 : decode cX1_isSettingValue 78 = .ok (.ireturn, 1) := by decide +kernel
theorem dX1_layPattern_0 : decode cX1_layPattern 0 = .ok (.iload_n 1, 1) := by decide +kernel
theorem dX1_layPattern_1 : decode cX1_layPattern 1 = .ok (.invokestatic 29, 3) := by decide +kernel
theorem dX1_layPattern_4 : decode cX1_layPattern 4 = .ok (.ifCond .ne 5, 3) := by decide +kernel
theorem dX1_layPattern_7 : decode cX1_layPattern 7 = .ok (.iconst (-1), 1) := by decide +kernel
theorem dX1_layPattern_8 : decode cX1_layPattern 8 = .ok (.ireturn, 1) := by decide +kernel
theorem dX1_layPattern_9 : decode cX1_layPattern 9 = .ok (.iload_n 2, 1) := by decide +kernel
theorem dX1_layPattern_10 : decode cX1_layPattern 10 = .ok (.invokestatic 33, 3) := by decide +kernel
theorem dX1_layPattern_13 : decode cX1_layPattern 13 = .ok (.ifCond .ne 6, 3) := by decide +kernel
theorem dX1_layPattern_16 : decode cX1_layPattern 16 = .ok (.bipush (-2), 2) := by decide +kernel
theorem dX1_layPattern_18 : decode cX1_layPattern 18 = .ok (.ireturn, 1) := by decide +kernel
theorem dX1_layPattern_19 : decode cX1_layPattern 19 = .ok (.aload_n 0, 1) := by decide +kernel
theorem dX1_layPattern_20 : decode cX1_layPattern 20 = .ok (.iload_n 1, 1) := by decide +kernel
theorem dX1_layPattern_21 : decode cX1_layPattern 21 = .ok (.invokevirtual 36, 3) := by decide +kernel
theorem dX1_layPattern_24 : decode cX1_layPattern 24 = .ok (.ifCond .eq 6, 3) := by decide +kernel
theorem dX1_layPattern_27 : decode cX1_layPattern 27 = .ok (.bipush (-5), 2) := by decide +kernel
theorem dX1_layPattern_29 : decode cX1_layPattern 29 = .ok (.ireturn, 1) := by decide +kernel
theorem dX1_layPattern_30 : decode cX1_layPattern 30 = .ok (.aload_n 0, 1) := by decide +kernel
theorem dX1_layPattern_31 : decode cX1_layPattern 31 = .ok (.iload_n 1, 1) := by decide +kernel
theorem dX1_layPattern_32 : decode cX1_layPattern 32 = .ok (.invokevirtual 39, 3) := by decide +kernel
theorem dX1_layPattern_35 : decode cX1_layPattern 35 = .ok (.invokestatic 42, 3) := by decide +kernel
theorem dX1_layPattern_38 : decode cX1_layPattern 38 = .ok (.istore_n 3, 1) := by decide +kernel
theorem dX1_layPattern_39 : decode cX1_layPattern 39 = .ok (.aload_n 0, 1) := by decide +kernel
theorem dX1_layPattern_40 : decode cX1_layPattern 40 = .ok (.iconst 3, 1) := by decide +kernel
theorem dX1_layPattern_41 : decode cX1_layPattern 41 = .ok (.iload_n 1, 1) := by decide +kernel
theorem dX1_layPattern_42 : decode cX1_layPattern 42 = .ok (.iadd, 1) := by decide +kernel
theorem dX1_layPattern_43 : decode cX1_layPattern 43 = .ok (.iload_n 2, 1) := by decide +kernel
theorem dX1_layPattern_44 : decode cX1_layPattern 44 = .ok (.invokevirtual 25, 3) := by decide +kernel
theorem dX1_layPattern_47 : decode cX1_layPattern 47 = .ok (.iload_n 3, 1) := by decide +kernel
theorem dX1_layPattern_48 : decode cX1_layPattern 48 = .ok (.ireturn, 1) := by decide +kernel
theorem dX1_isColourRow_0 : decode cX1_isColourRow 0 = .ok (.iload_n 0, 1) := by decide +kernel
theorem dX1_isColourRow_1 : decode cX1_isColourRow 1 = .ok (.istore_n 1, 1) := by decide +kernel
theorem dX1_isColourRow_2 : decode cX1_isColourRow 2 = .ok (.iconst 0, 1) := by decide +kernel
theorem dX1_isColourRow_3 : decode cX1_isColourRow 3 = .ok (.istore_n 2, 1) := by decide +kernel
theorem dX1_isColourRow_4 : decode cX1_isColourRow 4 = .ok (.iload_n 2, 1) := by decide +kernel
theorem dX1_isColourRow_5 : decode cX1_isColourRow 5 = .ok (.bipush 8, 2) := by decide +kernel
theorem dX1_isColourRow_7 : decode cX1_isColourRow 7 = .ok (.if_icmp .ge 24, 3) := by decide +kernel
theorem dX1_isColourRow_10 : decode cX1_isColourRow 10 = .ok (.iload_n 1, 1) := by decide +kernel
theorem dX1_isColourRow_11 : decode cX1_isColourRow 11 = .ok (.bipush 7, 2) := by decide +kernel
theorem dX1_isColourRow_13 : decode cX1_isColourRow 13 = .ok (.iand, 1) := by decide +kernel
theorem dX1_isColourRow_14 : decode cX1_isColourRow 14 = .ok (.bipush 6, 2) := by decide +kernel
theorem dX1_isColourRow_16 : decode cX1_isColourRow 16 = .ok (.if_icmp .le 5, 3) := by decide +kernel
theorem dX1_isColourRow_19 : decode cX1_isColourRow 19 = .ok (.iconst 0, 1) := by decide +kernel
theorem dX1_isColourRow_20 : decode cX1_isColourRow 20 = .ok (.ireturn, 1) := by decide +kernel
theorem dX1_isColourRow_21 : decode cX1_isColourRow 21 = .ok (.iload_n 1, 1) := by decide +kernel
theorem dX1_isColourRow_22 : decode cX1_isColourRow 22 = .ok (.iconst 3, 1) := by decide +kernel
theorem dX1_isColourRow_23 : decode cX1_isColourRow 23 = .ok (.ishr, 1) := by decide +kernel
theorem dX1_isColourRow_24 : decode cX1_isColourRow 24 = .ok (.istore_n 1, 1) := by decide +kernel
theorem dX1_isColourRow_25 : decode cX1_isColourRow 25 = .ok (.iinc 2 1, 3) := by decide +kernel
theorem dX1_isColourRow_28 : decode cX1_isColourRow 28 = .ok (.goto (-24), 3) := by decide +kernel
theorem dX1_isColourRow_31 : decode cX1_isColourRow 31 = .ok (.iload_n 1, 1) := by decide +kernel
theorem dX1_isColourRow_32 : decode cX1_isColourRow 32 = .ok (.ifCond .ne 7, 3) := by decide +kernel
theorem dX1_isColourRow_35 : decode cX1_isColourRow 35 = .ok (.iconst 1, 1) := by decide +kernel
theorem dX1_isColourRow_36 : decode cX1_isColourRow 36 = .ok (.goto 4, 3) := by decide +kernel
theorem dX1_isColourRow_39 : decode cX1_isColourRow 39 = .ok (.iconst 0, 1) := by decide +kernel
theorem dX1_isColourRow_40 : decode cX1_isColourRow 40 = .ok (.ireturn, 1) := by decide +kernel
theorem dX1_takeFunnel_0 : decode cX1_takeFunnel 0 = .ok (.iload_n 1, 1) := by decide +kernel
theorem dX1_takeFunnel_1 : decode cX1_takeFunnel 1 = .ok (.invokestatic 46, 3) := by decide +kernel
theorem dX1_takeFunnel_4 : decode cX1_takeFunnel 4 = .ok (.ifCond .ne 5, 3) := by decide +kernel
theorem dX1_takeFunnel_7 : decode cX1_takeFunnel 7 = .ok (.iconst (-1), 1) := by decide +kernel
theorem dX1_takeFunnel_8 : decode cX1_takeFunnel 8 = .ok (.ireturn, 1) := by decide +kernel
theorem dX1_takeFunnel_9 : decode cX1_takeFunnel 9 = .ok (.iload_n 2, 1) := by decide +kernel
theorem dX1_takeFunnel_10 : decode cX1_takeFunnel 10 = .ok (.ifCond .eq 13, 3) := by decide +kernel
theorem dX1_takeFunnel_13 : decode cX1_takeFunnel 13 = .ok (.iload_n 2, 1) := by decide +kernel
theorem dX1_takeFunnel_14 : decode cX1_takeFunnel 14 = .ok (.invokestatic 49, 3) := by decide +kernel
theorem dX1_takeFunnel_17 : decode cX1_takeFunnel 17 = .ok (.ifCond .ne 6, 3) := by decide +kernel
theorem dX1_takeFunnel_20 : decode cX1_takeFunnel 20 = .ok (.bipush (-2), 2) := by decide +kernel
theorem dX1_takeFunnel_22 : decode cX1_takeFunnel 22 = .ok (.ireturn, 1) := by decide +kernel
theorem dX1_takeFunnel_23 : decode cX1_takeFunnel 23 = .ok (.iload_n 2, 1) := by decide +kernel
theorem dX1_takeFunnel_24 : decode cX1_takeFunnel 24 = .ok (.ifCond .ne 8, 3) := by decide +kernel
theorem dX1_takeFunnel_27 : decode cX1_takeFunnel 27 = .ok (.bipush (-6), 2) := by decide +kernel
theorem dX1_takeFunnel_29 : decode cX1_takeFunnel 29 = .ok (.goto 8, 3) := by decide +kernel
theorem dX1_takeFunnel_32 : decode cX1_takeFunnel 32 = .ok (.aload_n 0, 1) := by decide +kernel
theorem dX1_takeFunnel_33 : decode cX1_takeFunnel 33 = .ok (.iload_n 2, 1) := by decide +kernel
theorem dX1_takeFunnel_34 : decode cX1_takeFunnel 34 = .ok (.invokevirtual 52, 3) := by decide +kernel
theorem dX1_takeFunnel_37 : decode cX1_takeFunnel 37 = .ok (.istore_n 3, 1) := by decide +kernel
theorem dX1_takeFunnel_38 : decode cX1_takeFunnel 38 = .ok (.iload_n 3, 1) := by decide +kernel
theorem dX1_takeFunnel_39 : decode cX1_takeFunnel 39 = .ok (.bipush (-6), 2) := by decide +kernel
theorem dX1_takeFunnel_41 : decode cX1_takeFunnel 41 = .ok (.if_icmp .eq 11, 3) := by decide +kernel
theorem dX1_takeFunnel_44 : decode cX1_takeFunnel 44 = .ok (.iload_n 3, 1) := by decide +kernel
theorem dX1_takeFunnel_45 : decode cX1_takeFunnel 45 = .ok (.iload_n 1, 1) := by decide +kernel
theorem dX1_takeFunnel_46 : decode cX1_takeFunnel 46 = .ok (.if_icmp .eq 6, 3) := by decide +kernel
theorem dX1_takeFunnel_49 : decode cX1_takeFunnel 49 = .ok (.bipush (-5), 2) := by decide +kernel
theorem dX1_takeFunnel_51 : decode cX1_takeFunnel 51 = .ok (.ireturn, 1) := by decide +kernel
theorem dX1_takeFunnel_52 : decode cX1_takeFunnel 52 = .ok (.aload_n 0, 1) := by decide +kernel
theorem dX1_takeFunnel_53 : decode cX1_takeFunnel 53 = .ok (.iload_n 1, 1) := by decide +kernel
theorem dX1_takeFunnel_54 : decode cX1_takeFunnel 54 = .ok (.invokevirtual 55, 3) := by decide +kernel
theorem dX1_takeFunnel_57 : decode cX1_takeFunnel 57 = .ok (.istore 4, 2) := by decide +kernel
theorem dX1_takeFunnel_59 : decode cX1_takeFunnel 59 = .ok (.aload_n 0, 1) := by decide +kernel
theorem dX1_takeFunnel_60 : decode cX1_takeFunnel 60 = .ok (.bipush 15, 2) := by decide +kernel
theorem dX1_takeFunnel_62 : decode cX1_takeFunnel 62 = .ok (.iload_n 1, 1) := by decide +kernel
theorem dX1_takeFunnel_63 : decode cX1_takeFunnel 63 = .ok (.iadd, 1) := by decide +kernel
theorem dX1_takeFunnel_64 : decode cX1_takeFunnel 64 = .ok (.iload_n 2, 1) := by decide +kernel
theorem dX1_takeFunnel_65 : decode cX1_takeFunnel 65 = .ok (.invokevirtual 25, 3) := by decide +kernel
theorem dX1_takeFunnel_68 : decode cX1_takeFunnel 68 = .ok (.iload 4, 2) := by decide +kernel
theorem dX1_takeFunnel_70 : decode cX1_takeFunnel 70 = .ok (.ireturn, 1) := by decide +kernel
theorem dX1_fillFunnel_0 : decode cX1_fillFunnel 0 = .ok (.iload_n 1, 1) := by decide +kernel
theorem dX1_fillFunnel_1 : decode cX1_fillFunnel 1 = .ok (.invokestatic 49, 3) := by decide +kernel
theorem dX1_fillFunnel_4 : decode cX1_fillFunnel 4 = .ok (.ifCond .ne 5, 3) := by decide +kernel
theorem dX1_fillFunnel_7 : decode cX1_fillFunnel 7 = .ok (.iconst (-1), 1) := by decide +kernel
theorem dX1_fillFunnel_8 : decode cX1_fillFunnel 8 = .ok (.ireturn, 1) := by decide +kernel
theorem dX1_fillFunnel_9 : decode cX1_fillFunnel 9 = .ok (.iload_n 2, 1) := by decide +kernel
theorem dX1_fillFunnel_10 : decode cX1_fillFunnel 10 = .ok (.iconst 1, 1) := by decide +kernel
theorem dX1_fillFunnel_11 : decode cX1_fillFunnel 11 = .ok (.if_icmp .lt 10, 3) := by decide +kernel
theorem dX1_fillFunnel_14 : decode cX1_fillFunnel 14 = .ok (.iload_n 2, 1) := by decide +kernel
theorem dX1_fillFunnel_15 : decode cX1_fillFunnel 15 = .ok (.sipush 9999, 3) := by decide +kernel
theorem dX1_fillFunnel_18 : decode cX1_fillFunnel 18 = .ok (.if_icmp .le 6, 3) := by decide +kernel
theorem dX1_fillFunnel_21 : decode cX1_fillFunnel 21 = .ok (.bipush (-2), 2) := by decide +kernel
theorem dX1_fillFunnel_23 : decode cX1_fillFunnel 23 = .ok (.ireturn, 1) := by decide +kernel
theorem dX1_fillFunnel_24 : decode cX1_fillFunnel 24 = .ok (.sipush 9999, 3) := by decide +kernel
theorem dX1_fillFunnel_27 : decode cX1_fillFunnel 27 = .ok (.aload_n 0, 1) := by decide +kernel
theorem dX1_fillFunnel_28 : decode cX1_fillFunnel 28 = .ok (.iload_n 1, 1) := by decide +kernel
theorem dX1_fillFunnel_29 : decode cX1_fillFunnel 29 = .ok (.invokevirtual 58, 3) := by decide +kernel
theorem dX1_fillFunnel_32 : decode cX1_fillFunnel 32 = .ok (.iload_n 2, 1) := by decide +kernel
theorem dX1_fillFunnel_33 : decode cX1_fillFunnel 33 = .ok (.iadd, 1) := by decide +kernel
theorem dX1_fillFunnel_34 : decode cX1_fillFunnel 34 = .ok (.invokestatic 61, 3) := by decide +kernel
theorem dX1_fillFunnel_37 : decode cX1_fillFunnel 37 = .ok (.istore_n 3, 1) := by decide +kernel
theorem dX1_fillFunnel_38 : decode cX1_fillFunnel 38 = .ok (.aload_n 0, 1) := by decide +kernel
theorem dX1_fillFunnel_39 : decode cX1_fillFunnel 39 = .ok (.bipush 8, 2) := by decide +kernel
theorem dX1_fillFunnel_41 : decode cX1_fillFunnel 41 = .ok (.iload_n 1, 1) := by decide +kernel
theorem dX1_fillFunnel_42 : decode cX1_fillFunnel 42 = .ok (.iadd, 1) := by decide +kernel
theorem dX1_fillFunnel_43 : decode cX1_fillFunnel 43 = .ok (.iload_n 3, 1) := by decide +kernel
theorem dX1_fillFunnel_44 : decode cX1_fillFunnel 44 = .ok (.invokevirtual 25, 3) := by decide +kernel
theorem dX1_fillFunnel_47 : decode cX1_fillFunnel 47 = .ok (.iload_n 3, 1) := by decide +kernel
theorem dX1_fillFunnel_48 : decode cX1_fillFunnel 48 = .ok (.ireturn, 1) := by decide +kernel
theorem dX1_pourGrains_0 : decode cX1_pourGrains 0 = .ok (.iload_n 1, 1) := by decide +kernel
theorem dX1_pourGrains_1 : decode cX1_pourGrains 1 = .ok (.iload_n 2, 1) := by decide +kernel
theorem dX1_pourGrains_2 : decode cX1_pourGrains 2 = .ok (.iload_n 3, 1) := by decide +kernel
theorem dX1_pourGrains_3 : decode cX1_pourGrains 3 = .ok (.invokestatic 67, 3) := by decide +kernel
theorem dX1_pourGrains_6 : decode cX1_pourGrains 6 = .ok (.ifCond .ne 5, 3) := by decide +kernel
theorem dX1_pourGrains_9 : decode cX1_pourGrains 9 = .ok (.iconst (-1), 1) := by decide +kernel
theorem dX1_pourGrains_10 : decode cX1_pourGrains 10 = .ok (.ireturn, 1) := by decide +kernel
theorem dX1_pourGrains_11 : decode cX1_pourGrains 11 = .ok (.iload 4, 2) := by decide +kernel
theorem dX1_pourGrains_13 : decode cX1_pourGrains 13 = .ok (.iconst 1, 1) := by decide +kernel
theorem dX1_pourGrains_14 : decode cX1_pourGrains 14 = .ok (.if_icmp .lt 10, 3) := by decide +kernel
theorem dX1_pourGrains_17 : decode cX1_pourGrains 17 = .ok (.iload 4, 2) := by decide +kernel
theorem dX1_pourGrains_19 : decode cX1_pourGrains 19 = .ok (.bipush 99, 2) := by decide +kernel
theorem dX1_pourGrains_21 : decode cX1_pourGrains 21 = .ok (.if_icmp .le 6, 3) := by decide +kernel
theorem dX1_pourGrains_24 : decode cX1_pourGrains 24 = .ok (.bipush (-2), 2) := by decide +kernel
theorem dX1_pourGrains_26 : decode cX1_pourGrains 26 = .ok (.ireturn, 1) := by decide +kernel
theorem dX1_pourGrains_27 : decode cX1_pourGrains 27 = .ok (.aload_n 0, 1) := by decide +kernel
theorem dX1_pourGrains_28 : decode cX1_pourGrains 28 = .ok (.iload_n 1, 1) := by decide +kernel
theorem dX1_pourGrains_29 : decode cX1_pourGrains 29 = .ok (.invokevirtual 55, 3) := by decide +kernel
theorem dX1_pourGrains_32 : decode cX1_pourGrains 32 = .ok (.istore 5, 2) := by decide +kernel
theorem dX1_pourGrains_34 : decode cX1_pourGrains 34 = .ok (.aload_n 0, 1) := by decide +kernel
theorem dX1_pourGrains_35 : decode cX1_pourGrains 35 = .ok (.iload_n 1, 1) := by decide +kernel
theorem dX1_pourGrains_36 : decode cX1_pourGrains 36 = .ok (.iload_n 2, 1) := by decide +kernel
theorem dX1_pourGrains_37 : decode cX1_pourGrains 37 = .ok (.iload_n 3, 1) := by decide +kernel
theorem dX1_pourGrains_38 : decode cX1_pourGrains 38 = .ok (.invokevirtual 71, 3) := by decide +kernel
theorem dX1_pourGrains_41 : decode cX1_pourGrains 41 = .ok (.istore 6, 2) := by decide +kernel
theorem dX1_pourGrains_43 : decode cX1_pourGrains 43 = .ok (.iload 5, 2) := by decide +kernel
theorem dX1_pourGrains_45 : decode cX1_pourGrains 45 = .ok (.ifCond .eq 11, 3) := by decide +kernel
theorem dX1_pourGrains_48 : decode cX1_pourGrains 48 = .ok (.aload_n 0, 1) := by decide +kernel
theorem dX1_pourGrains_49 : decode cX1_pourGrains 49 = .ok (.iload_n 2, 1) := by decide +kernel
theorem dX1_pourGrains_50 : decode cX1_pourGrains 50 = .ok (.invokevirtual 36, 3) := by decide +kernel
theorem dX1_pourGrains_53 : decode cX1_pourGrains 53 = .ok (.ifCond .eq 6, 3) := by decide +kernel
theorem dX1_pourGrains_56 : decode cX1_pourGrains 56 = .ok (.bipush (-5), 2) := by decide +kernel
theorem dX1_pourGrains_58 : decode cX1_pourGrains 58 = .ok (.ireturn, 1) := by decide +kernel
theorem dX1_pourGrains_59 : decode cX1_pourGrains 59 = .ok (.iload 6, 2) := by decide +kernel
theorem dX1_pourGrains_61 : decode cX1_pourGrains 61 = .ok (.ifCond .eq 13, 3) := by decide +kernel
theorem dX1_pourGrains_64 : decode cX1_pourGrains 64 = .ok (.iload 6, 2) := by decide +kernel
theorem dX1_pourGrains_66 : decode cX1_pourGrains 66 = .ok (.iload 5, 2) := by decide +kernel
theorem dX1_pourGrains_68 : decode cX1_pourGrains 68 = .ok (.if_icmp .eq 6, 3) := by decide +kernel
theorem dX1_pourGrains_71 : decode cX1_pourGrains 71 = .ok (.bipush (-5), 2) := by decide +kernel
theorem dX1_pourGrains_73 : decode cX1_pourGrains 73 = .ok (.ireturn, 1) := by decide +kernel
theorem dX1_pourGrains_74 : decode cX1_pourGrains 74 = .ok (.aload_n 0, 1) := by decide +kernel
theorem dX1_pourGrains_75 : decode cX1_pourGrains 75 = .ok (.iload 5, 2) := by decide +kernel
theorem dX1_pourGrains_77 : decode cX1_pourGrains 77 = .ok (.invokevirtual 58, 3) := by decide +kernel
theorem dX1_pourGrains_80 : decode cX1_pourGrains 80 = .ok (.iload 4, 2) := by decide +kernel
theorem dX1_pourGrains_82 : decode cX1_pourGrains 82 = .ok (.if_icmp .ge 6, 3) := by decide +kernel
theorem dX1_pourGrains_85 : decode cX1_pourGrains 85 = .ok (.bipush (-5), 2) := by decide +kernel
theorem dX1_pourGrains_87 : decode cX1_pourGrains 87 = .ok (.ireturn, 1) := by decide +kernel
theorem dX1_pourGrains_88 : decode cX1_pourGrains 88 = .ok (.aload_n 0, 1) := by decide +kernel
theorem dX1_pourGrains_89 : decode cX1_pourGrains 89 = .ok (.iload_n 1, 1) := by decide +kernel
theorem dX1_pourGrains_90 : decode cX1_pourGrains 90 = .ok (.iload_n 2, 1) := by decide +kernel
theorem dX1_pourGrains_91 : decode cX1_pourGrains 91 = .ok (.iload_n 3, 1) := by decide +kernel
theorem dX1_pourGrains_92 : decode cX1_pourGrains 92 = .ok (.invokevirtual 75, 3) := by decide +kernel
theorem dX1_pourGrains_95 : decode cX1_pourGrains 95 = .ok (.iload 4, 2) := by decide +kernel
theorem dX1_pourGrains_97 : decode cX1_pourGrains 97 = .ok (.iadd, 1) := by decide +kernel
theorem dX1_pourGrains_98 : decode cX1_pourGrains 98 = .ok (.istore 7, 2) := by decide +kernel
theorem dX1_pourGrains_100 : decode cX1_pourGrains 100 = .ok (.iload 7, 2) := by decide +kernel
theorem dX1_pourGrains_102 : decode cX1_pourGrains 102 = .ok (.bipush 99, 2) := by decide +kernel
theorem dX1_pourGrains_104 : decode cX1_pourGrains 104 = .ok (.if_icmp .le 6, 3) := by decide +kernel
theorem dX1_pourGrains_107 : decode cX1_pourGrains 107 = .ok (.bipush (-4), 2) := by decide +kernel
theorem dX1_pourGrains_109 : decode cX1_pourGrains 109 = .ok (.ireturn, 1) := by decide +kernel
theorem dX1_pourGrains_110 : decode cX1_pourGrains 110 = .ok (.aload_n 0, 1) := by decide +kernel
theorem dX1_pourGrains_111 : decode cX1_pourGrains 111 = .ok (.iload_n 1, 1) := by decide +kernel
theorem dX1_pourGrains_112 : decode cX1_pourGrains 112 = .ok (.iload_n 2, 1) := by decide +kernel
theorem dX1_pourGrains_113 : decode cX1_pourGrains 113 = .ok (.iload_n 3, 1) := by decide +kernel
theorem dX1_pourGrains_114 : decode cX1_pourGrains 114 = .ok (.iload 5, 2) := by decide +kernel
theorem dX1_pourGrains_116 : decode cX1_pourGrains 116 = .ok (.iload 7, 2) := by decide +kernel
theorem dX1_pourGrains_118 : decode cX1_pourGrains 118 = .ok (.invokevirtual 78, 3) := by decide +kernel
theorem dX1_pourGrains_121 : decode cX1_pourGrains 121 = .ok (.aload_n 0, 1) := by decide +kernel
theorem dX1_pourGrains_122 : decode cX1_pourGrains 122 = .ok (.bipush 8, 2) := by decide +kernel
theorem dX1_pourGrains_124 : decode cX1_pourGrains 124 = .ok (.iload 5, 2) := by decide +kernel
theorem dX1_pourGrains_126 : decode cX1_pourGrains 126 = .ok (.iadd, 1) := by decide +kernel
theorem dX1_pourGrains_127 : decode cX1_pourGrains 127 = .ok (.iload 4, 2) := by decide +kernel
theorem dX1_pourGrains_129 : decode cX1_pourGrains 129 = .ok (.ineg, 1) := by decide +kernel
theorem dX1_pourGrains_130 : decode cX1_pourGrains 130 = .ok (.invokevirtual 82, 3) := by decide +kernel
theorem dX1_pourGrains_133 : decode cX1_pourGrains 133 = .ok (.aload_n 0, 1) := by decide +kernel
theorem dX1_pourGrains_134 : decode cX1_pourGrains 134 = .ok (.bipush 22, 2) := by decide +kernel
theorem dX1_pourGrains_136 : decode cX1_pourGrains 136 = .ok (.iload 4, 2) := by decide +kernel
theorem dX1_pourGrains_138 : decode cX1_pourGrains 138 = .ok (.invokevirtual 82, 3) := by decide +kernel
theorem dX1_pourGrains_141 : decode cX1_pourGrains 141 = .ok (.iload 7, 2) := by decide +kernel
theorem dX1_pourGrains_143 : decode cX1_pourGrains 143 = .ok (.ireturn, 1) := by decide +kernel
theorem dX1_scrapeBare_0 : decode cX1_scrapeBare 0 = .ok (.iload_n 1, 1) := by decide +kernel
theorem dX1_scrapeBare_1 : decode cX1_scrapeBare 1 = .ok (.iload_n 2, 1) := by decide +kernel
theorem dX1_scrapeBare_2 : decode cX1_scrapeBare 2 = .ok (.iload_n 3, 1) := by decide +kernel
theorem dX1_scrapeBare_3 : decode cX1_scrapeBare 3 = .ok (.invokestatic 67, 3) := by decide +kernel
theorem dX1_scrapeBare_6 : decode cX1_scrapeBare 6 = .ok (.ifCond .ne 5, 3) := by decide +kernel
theorem dX1_scrapeBare_9 : decode cX1_scrapeBare 9 = .ok (.iconst (-1), 1) := by decide +kernel
theorem dX1_scrapeBare_10 : decode cX1_scrapeBare 10 = .ok (.ireturn, 1) := by decide +kernel
theorem dX1_scrapeBare_11 : decode cX1_scrapeBare 11 = .ok (.aload_n 0, 1) := by decide +kernel
theorem dX1_scrapeBare_12 : decode cX1_scrapeBare 12 = .ok (.iload_n 1, 1) := by decide +kernel
theorem dX1_scrapeBare_13 : decode cX1_scrapeBare 13 = .ok (.iload_n 2, 1) := by decide +kernel
theorem dX1_scrapeBare_14 : decode cX1_scrapeBare 14 = .ok (.iload_n 3, 1) := by decide +kernel
theorem dX1_scrapeBare_15 : decode cX1_scrapeBare 15 = .ok (.invokevirtual 75, 3) := by decide +kernel
theorem dX1_scrapeBare_18 : decode cX1_scrapeBare 18 = .ok (.istore 4, 2) := by decide +kernel
theorem dX1_scrapeBare_20 : decode cX1_scrapeBare 20 = .ok (.aload_n 0, 1) := by decide +kernel
theorem dX1_scrapeBare_21 : decode cX1_scrapeBare 21 = .ok (.iload_n 2, 1) := by decide +kernel
theorem dX1_scrapeBare_22 : decode cX1_scrapeBare 22 = .ok (.invokevirtual 36, 3) := by decide +kernel
theorem dX1_scrapeBare_25 : decode cX1_scrapeBare 25 = .ok (.ifCond .ne 8, 3) := by decide +kernel
theorem dX1_scrapeBare_28 : decode cX1_scrapeBare 28 = .ok (.iload 4, 2) := by decide +kernel
theorem dX1_scrapeBare_30 : decode cX1_scrapeBare 30 = .ok (.ifCond .ne 6, 3) := by decide +kernel
theorem dX1_scrapeBare_33 : decode cX1_scrapeBare 33 = .ok (.bipush (-5), 2) := by decide +kernel
theorem dX1_scrapeBare_35 : decode cX1_scrapeBare 35 = .ok (.ireturn, 1) := by decide +kernel
theorem dX1_scrapeBare_36 : decode cX1_scrapeBare 36 = .ok (.aload_n 0, 1) := by decide +kernel
theorem dX1_scrapeBare_37 : decode cX1_scrapeBare 37 = .ok (.iload_n 1, 1) := by decide +kernel
theorem dX1_scrapeBare_38 : decode cX1_scrapeBare 38 = .ok (.iload_n 2, 1) := by decide +kernel
theorem dX1_scrapeBare_39 : decode cX1_scrapeBare 39 = .ok (.iload_n 3, 1) := by decide +kernel
theorem dX1_scrapeBare_40 : decode cX1_scrapeBare 40 = .ok (.iconst 0, 1) := by decide +kernel
theorem dX1_scrapeBare_41 : decode cX1_scrapeBare 41 = .ok (.iconst 0, 1) := by decide +kernel
theorem dX1_scrapeBare_42 : decode cX1_scrapeBare 42 = .ok (.invokevirtual 78, 3) := by decide +kernel
theorem dX1_scrapeBare_45 : decode cX1_scrapeBare 45 = .ok (.aload_n 0, 1) := by decide +kernel
theorem dX1_scrapeBare_46 : decode cX1_scrapeBare 46 = .ok (.bipush 23, 2) := by decide +kernel
theorem dX1_scrapeBare_48 : decode cX1_scrapeBare 48 = .ok (.iload 4, 2) := by decide +kernel
theorem dX1_scrapeBare_50 : decode cX1_scrapeBare 50 = .ok (.invokevirtual 82, 3) := by decide +kernel
theorem dX1_scrapeBare_53 : decode cX1_scrapeBare 53 = .ok (.iload 4, 2) := by decide +kernel
theorem dX1_scrapeBare_55 : decode cX1_scrapeBare 55 = .ok (.ireturn, 1) := by decide +kernel
theorem dX1_blow_0 : decode cX1_blow 0 = .ok (.iload_n 2, 1) := by decide +kernel
theorem dX1_blow_1 : decode cX1_blow 1 = .ok (.invokestatic 46, 3) := by decide +kernel
theorem dX1_blow_4 : decode cX1_blow 4 = .ok (.ifCond .ne 5, 3) := by decide +kernel
theorem dX1_blow_7 : decode cX1_blow 7 = .ok (.iconst (-1), 1) := by decide +kernel
theorem dX1_blow_8 : decode cX1_blow 8 = .ok (.ireturn, 1) := by decide +kernel
theorem dX1_blow_9 : decode cX1_blow 9 = .ok (.iload_n 3, 1) := by decide +kernel
theorem dX1_blow_10 : decode cX1_blow 10 = .ok (.invokestatic 85, 3) := by decide +kernel
theorem dX1_blow_13 : decode cX1_blow 13 = .ok (.ifCond .ne 6, 3) := by decide +kernel
theorem dX1_blow_16 : decode cX1_blow 16 = .ok (.bipush (-2), 2) := by decide +kernel
theorem dX1_blow_18 : decode cX1_blow 18 = .ok (.ireturn, 1) := by decide +kernel
theorem dX1_blow_19 : decode cX1_blow 19 = .ok (.aload_n 1, 1) := by decide +kernel
theorem dX1_blow_20 : decode cX1_blow 20 = .ok (.aload_n 0, 1) := by decide +kernel
theorem dX1_blow_21 : decode cX1_blow 21 = .ok (.iload_n 2, 1) := by decide +kernel
theorem dX1_blow_22 : decode cX1_blow 22 = .ok (.iload_n 3, 1) := by decide +kernel
theorem dX1_blow_23 : decode cX1_blow 23 = .ok (.invokevirtual 88, 3) := by decide +kernel
theorem dX1_blow_26 : decode cX1_blow 26 = .ok (.istore 4, 2) := by decide +kernel
theorem dX1_blow_28 : decode cX1_blow 28 = .ok (.aload_n 0, 1) := by decide +kernel
theorem dX1_blow_29 : decode cX1_blow 29 = .ok (.bipush 23, 2) := by decide +kernel
theorem dX1_blow_31 : decode cX1_blow 31 = .ok (.iload 4, 2) := by decide +kernel
theorem dX1_blow_33 : decode cX1_blow 33 = .ok (.invokevirtual 82, 3) := by decide +kernel
theorem dX1_blow_36 : decode cX1_blow 36 = .ok (.iload 4, 2) := by decide +kernel
theorem dX1_blow_38 : decode cX1_blow 38 = .ok (.ireturn, 1) := by decide +kernel
theorem dX1_closeRing_0 : decode cX1_closeRing 0 = .ok (.aload_n 0, 1) := by decide +kernel
theorem dX1_closeRing_1 : decode cX1_closeRing 1 = .ok (.bipush 19, 2) := by decide +kernel
theorem dX1_closeRing_3 : decode cX1_closeRing 3 = .ok (.invokevirtual 94, 3) := by decide +kernel
theorem dX1_closeRing_6 : decode cX1_closeRing 6 = .ok (.istore_n 1, 1) := by decide +kernel
theorem dX1_closeRing_7 : decode cX1_closeRing 7 = .ok (.iload_n 1, 1) := by decide +kernel
theorem dX1_closeRing_8 : decode cX1_closeRing 8 = .ok (.iconst 5, 1) := by decide +kernel
theorem dX1_closeRing_9 : decode cX1_closeRing 9 = .ok (.if_icmp .ge 11, 3) := by decide +kernel
theorem dX1_closeRing_12 : decode cX1_closeRing 12 = .ok (.aload_n 0, 1) := by decide +kernel
theorem dX1_closeRing_13 : decode cX1_closeRing 13 = .ok (.iload_n 1, 1) := by decide +kernel
theorem dX1_closeRing_14 : decode cX1_closeRing 14 = .ok (.invokestatic 97, 3) := by decide +kernel
theorem dX1_closeRing_17 : decode cX1_closeRing 17 = .ok (.ifCond .ne 6, 3) := by decide +kernel
theorem dX1_closeRing_20 : decode cX1_closeRing 20 = .ok (.bipush (-5), 2) := by decide +kernel
theorem dX1_closeRing_22 : decode cX1_closeRing 22 = .ok (.ireturn, 1) := by decide +kernel
theorem dX1_closeRing_23 : decode cX1_closeRing 23 = .ok (.aload_n 0, 1) := by decide +kernel
theorem dX1_closeRing_24 : decode cX1_closeRing 24 = .ok (.bipush 19, 2) := by decide +kernel
theorem dX1_closeRing_26 : decode cX1_closeRing 26 = .ok (.iload_n 1, 1) := by decide +kernel
theorem dX1_closeRing_27 : decode cX1_closeRing 27 = .ok (.iconst 1, 1) := by decide +kernel
theorem dX1_closeRing_28 : decode cX1_closeRing 28 = .ok (.iadd, 1) := by decide +kernel
theorem dX1_closeRing_29 : decode cX1_closeRing 29 = .ok (.invokevirtual 25, 3) := by decide +kernel
theorem dX1_closeRing_32 : decode cX1_closeRing 32 = .ok (.iload_n 1, 1) := by decide +kernel
theorem dX1_closeRing_33 : decode cX1_closeRing 33 = .ok (.ireturn, 1) := by decide +kernel
theorem dX1_sweepQuarter_0 : decode cX1_sweepQuarter 0 = .ok (.aload_n 0, 1) := by decide +kernel
theorem dX1_sweepQuarter_1 : decode cX1_sweepQuarter 1 = .ok (.bipush 19, 2) := by decide +kernel
theorem dX1_sweepQuarter_3 : decode cX1_sweepQuarter 3 = .ok (.invokevirtual 94, 3) := by decide +kernel
theorem dX1_sweepQuarter_6 : decode cX1_sweepQuarter 6 = .ok (.iconst 5, 1) := by decide +kernel
theorem dX1_sweepQuarter_7 : decode cX1_sweepQuarter 7 = .ok (.if_icmp .ge 6, 3) := by decide +kernel
theorem dX1_sweepQuarter_10 : decode cX1_sweepQuarter 10 = .ok (.bipush (-5), 2) := by decide +kernel
theorem dX1_sweepQuarter_12 : decode cX1_sweepQuarter 12 = .ok (.ireturn, 1) := by decide +kernel
theorem dX1_sweepQuarter_13 : decode cX1_sweepQuarter 13 = .ok (.aload_n 0, 1) := by decide +kernel
theorem dX1_sweepQuarter_14 : decode cX1_sweepQuarter 14 = .ok (.bipush 20, 2) := by decide +kernel
theorem dX1_sweepQuarter_16 : decode cX1_sweepQuarter 16 = .ok (.invokevirtual 94, 3) := by decide +kernel
theorem dX1_sweepQuarter_19 : decode cX1_sweepQuarter 19 = .ok (.istore_n 1, 1) := by decide +kernel
theorem dX1_sweepQuarter_20 : decode cX1_sweepQuarter 20 = .ok (.iload_n 1, 1) := by decide +kernel
theorem dX1_sweepQuarter_21 : decode cX1_sweepQuarter 21 = .ok (.invokestatic 103, 3) := by decide +kernel
theorem dX1_sweepQuarter_24 : decode cX1_sweepQuarter 24 = .ok (.istore_n 2, 1) := by decide +kernel
theorem dX1_sweepQuarter_25 : decode cX1_sweepQuarter 25 = .ok (.iconst 0, 1) := by decide +kernel
theorem dX1_sweepQuarter_26 : decode cX1_sweepQuarter 26 = .ok (.istore_n 3, 1) := by decide +kernel
theorem dX1_sweepQuarter_27 : decode cX1_sweepQuarter 27 = .ok (.iload_n 3, 1) := by decide +kernel
theorem dX1_sweepQuarter_28 : decode cX1_sweepQuarter 28 = .ok (.iconst 5, 1) := by decide +kernel
theorem dX1_sweepQuarter_29 : decode cX1_sweepQuarter 29 = .ok (.if_icmp .ge 49, 3) := by decide +kernel
theorem dX1_sweepQuarter_32 : decode cX1_sweepQuarter 32 = .ok (.iconst 0, 1) := by decide +kernel
theorem dX1_sweepQuarter_33 : decode cX1_sweepQuarter 33 = .ok (.istore 4, 2) := by decide +kernel
theorem dX1_sweepQuarter_35 : decode cX1_sweepQuarter 35 = .ok (.iload 4, 2) := by decide +kernel
theorem dX1_sweepQuarter_37 : decode cX1_sweepQuarter 37 = .ok (.bipush 8, 2) := by decide +kernel
theorem dX1_sweepQuarter_39 : decode cX1_sweepQuarter 39 = .ok (.if_icmp .ge 33, 3) := by decide +kernel
theorem dX1_sweepQuarter_42 : decode cX1_sweepQuarter 42 = .ok (.aload_n 0, 1) := by decide +kernel
theorem dX1_sweepQuarter_43 : decode cX1_sweepQuarter 43 = .ok (.bipush 23, 2) := by decide +kernel
theorem dX1_sweepQuarter_45 : decode cX1_sweepQuarter 45 = .ok (.aload_n 0, 1) := by decide +kernel
theorem dX1_sweepQuarter_46 : decode cX1_sweepQuarter 46 = .ok (.iload_n 2, 1) := by decide +kernel
theorem dX1_sweepQuarter_47 : decode cX1_sweepQuarter 47 = .ok (.iload_n 3, 1) := by decide +kernel
theorem dX1_sweepQuarter_48 : decode cX1_sweepQuarter 48 = .ok (.iload 4, 2) := by decide +kernel
theorem dX1_sweepQuarter_50 : decode cX1_sweepQuarter 50 = .ok (.invokevirtual 75, 3) := by decide +kernel
theorem dX1_sweepQuarter_53 : decode cX1_sweepQuarter 53 = .ok (.invokevirtual 82, 3) := by decide +kernel
theorem dX1_sweepQuarter_56 : decode cX1_sweepQuarter 56 = .ok (.aload_n 0, 1) := by decide +kernel
theorem dX1_sweepQuarter_57 : decode cX1_sweepQuarter 57 = .ok (.iload_n 2, 1) := by decide +kernel
theorem dX1_sweepQuarter_58 : decode cX1_sweepQuarter 58 = .ok (.iload_n 3, 1) := by decide +kernel
theorem dX1_sweepQuarter_59 : decode cX1_sweepQuarter 59 = .ok (.iload 4, 2) := by decide +kernel
theorem dX1_sweepQuarter_61 : decode cX1_sweepQuarter 61 = .ok (.iconst 0, 1) := by decide +kernel
theorem dX1_sweepQuarter_62 : decode cX1_sweepQuarter 62 = .ok (.iconst 0, 1) := by decide +kernel
theorem dX1_sweepQuarter_63 : decode cX1_sweepQuarter 63 = .ok (.invokevirtual 78, 3) := by decide +kernel
theorem dX1_sweepQuarter_66 : decode cX1_sweepQuarter 66 = .ok (.iinc 4 1, 3) := by decide +kernel
theorem dX1_sweepQuarter_69 : decode cX1_sweepQuarter 69 = .ok (.goto (-34), 3) := by decide +kernel
theorem dX1_sweepQuarter_72 : decode cX1_sweepQuarter 72 = .ok (.iinc 3 1, 3) := by decide +kernel
theorem dX1_sweepQuarter_75 : decode cX1_sweepQuarter 75 = .ok (.goto (-48), 3) := by decide +kernel
theorem dX1_sweepQuarter_78 : decode cX1_sweepQuarter 78 = .ok (.aload_n 0, 1) := by decide +kernel
theorem dX1_sweepQuarter_79 : decode cX1_sweepQuarter 79 = .ok (.bipush 20, 2) := by decide +kernel
theorem dX1_sweepQuarter_81 : decode cX1_sweepQuarter 81 = .ok (.iload_n 1, 1) := by decide +kernel
theorem dX1_sweepQuarter_82 : decode cX1_sweepQuarter 82 = .ok (.iconst 1, 1) := by decide +kernel
theorem dX1_sweepQuarter_83 : decode cX1_sweepQuarter 83 = .ok (.iadd, 1) := by decide +kernel
theorem dX1_sweepQuarter_84 : decode cX1_sweepQuarter 84 = .ok (.invokevirtual 25, 3) := by decide +kernel
theorem dX1_sweepQuarter_87 : decode cX1_sweepQuarter 87 = .ok (.iload_n 1, 1) := by decide +kernel
theorem dX1_sweepQuarter_88 : decode cX1_sweepQuarter 88 = .ok (.iconst 1, 1) := by decide +kernel
theorem dX1_sweepQuarter_89 : decode cX1_sweepQuarter 89 = .ok (.iadd, 1) := by decide +kernel
theorem dX1_sweepQuarter_90 : decode cX1_sweepQuarter 90 = .ok (.iconst 4, 1) := by decide +kernel
theorem dX1_sweepQuarter_91 : decode cX1_sweepQuarter 91 = .ok (.if_icmp .lt 7, 3) := by decide +kernel
theorem dX1_sweepQuarter_94 : decode cX1_sweepQuarter 94 = .ok (.aload_n 0, 1) := by decide +kernel
theorem dX1_sweepQuarter_95 : decode cX1_sweepQuarter 95 = .ok (.invokestatic 106, 3) := by decide +kernel
theorem dX1_sweepQuarter_98 : decode cX1_sweepQuarter 98 = .ok (.iload_n 2, 1) := by decide +kernel
theorem dX1_sweepQuarter_99 : decode cX1_sweepQuarter 99 = .ok (.ireturn, 1) := by decide +kernel
theorem dX1_beginAnew_0 : decode cX1_beginAnew 0 = .ok (.aload_n 0, 1) := by decide +kernel
theorem dX1_beginAnew_1 : decode cX1_beginAnew 1 = .ok (.bipush 20, 2) := by decide +kernel
theorem dX1_beginAnew_3 : decode cX1_beginAnew 3 = .ok (.iconst 0, 1) := by decide +kernel
theorem dX1_beginAnew_4 : decode cX1_beginAnew 4 = .ok (.invokevirtual 25, 3) := by decide +kernel
theorem dX1_beginAnew_7 : decode cX1_beginAnew 7 = .ok (.aload_n 0, 1) := by decide +kernel
theorem dX1_beginAnew_8 : decode cX1_beginAnew 8 = .ok (.bipush 19, 2) := by decide +kernel
theorem dX1_beginAnew_10 : decode cX1_beginAnew 10 = .ok (.iconst 0, 1) := by decide +kernel
theorem dX1_beginAnew_11 : decode cX1_beginAnew 11 = .ok (.invokevirtual 25, 3) := by decide +kernel
theorem dX1_beginAnew_14 : decode cX1_beginAnew 14 = .ok (.aload_n 0, 1) := by decide +kernel
theorem dX1_beginAnew_15 : decode cX1_beginAnew 15 = .ok (.invokevirtual 110, 3) := by decide +kernel
theorem dX1_beginAnew_18 : decode cX1_beginAnew 18 = .ok (.aload_n 0, 1) := by decide +kernel
theorem dX1_beginAnew_19 : decode cX1_beginAnew 19 = .ok (.bipush 21, 2) := by decide +kernel
theorem dX1_beginAnew_21 : decode cX1_beginAnew 21 = .ok (.iconst 1, 1) := by decide +kernel
theorem dX1_beginAnew_22 : decode cX1_beginAnew 22 = .ok (.invokevirtual 82, 3) := by decide +kernel
theorem dX1_beginAnew_25 : decode cX1_beginAnew 25 = .ok (.return_, 1) := by decide +kernel
theorem dX2_init_0 : decode cX2_init 0 = .ok (.aload_n 0, 1) := by decide +kernel
theorem dX2_init_1 : decode cX2_init 1 = .ok (.invokespecial 5, 3) := by decide +kernel
theorem dX2_init_4 : decode cX2_init 4 = .ok (.aload_n 0, 1) := by decide +kernel
theorem dX2_init_5 : decode cX2_init 5 = .ok (.sipush 3096, 3) := by decide +kernel
theorem dX2_init_8 : decode cX2_init 8 = .ok (.newarray .int, 2) := by decide +kernel
theorem dX2_init_10 : decode cX2_init 10 = .ok (.putfield 13, 3) := by decide +kernel
theorem dX2_init_13 : decode cX2_init 13 = .ok (.return_, 1) := by decide +kernel
theorem dX2_undoable_0 : decode cX2_undoable 0 = .ok (.aload_n 0, 1) := by decide +kernel
theorem dX2_undoable_1 : decode cX2_undoable 1 = .ok (.getfield 17, 3) := by decide +kernel
theorem dX2_undoable_4 : decode cX2_undoable 4 = .ok (.ireturn, 1) := by decide +kernel
theorem dX2_stage_0 : decode cX2_stage 0 = .ok (.aload_n 1, 1) := by decide +kernel
theorem dX2_stage_1 : decode cX2_stage 1 = .ok (.aload_n 0, 1) := by decide +kernel
theorem dX2_stage_2 : decode cX2_stage 2 = .ok (.getfield 13, 3) := by decide +kernel
theorem dX2_stage_5 : decode cX2_stage 5 = .ok (.aload_n 0, 1) := by decide +kernel
theorem dX2_stage_6 : decode cX2_stage 6 = .ok (.aload_n 0, 1) := by decide +kernel
theorem dX2_stage_7 : decode cX2_stage 7 = .ok (.getfield 17, 3) := by decide +kernel
theorem dX2_stage_10 : decode cX2_stage 10 = .ok (.invokevirtual 21, 3) := by decide +kernel
theorem dX2_stage_13 : decode cX2_stage 13 = .ok (.invokevirtual 25, 3) := by decide +kernel
theorem dX2_stage_16 : decode cX2_stage 16 = .ok (.return_, 1) := by decide +kernel
theorem dX2_recordUnlessError_0 : decode cX2_recordUnlessError 0 = .ok (.iload_n 1, 1) := by decide +kernel
theorem dX2_recordUnlessError_1 : decode cX2_recordUnlessError 1 = .ok (.ifCond .ge 5, 3) := by decide +kernel
theorem dX2_recordUnlessError_4 : decode cX2_recordUnlessError 4 = .ok (.iload_n 1, 1) := by decide +kernel
theorem dX2_recordUnlessError_5 : decode cX2_recordUnlessError 5 = .ok (.ireturn, 1) := by decide +kernel
theorem dX2_recordUnlessError_6 : decode cX2_recordUnlessError 6 = .ok (.aload_n 0, 1) := by decide +kernel
theorem dX2_recordUnlessError_7 : decode cX2_recordUnlessError 7 = .ok (.getfield 17, 3) := by decide +kernel
theorem dX2_recordUnlessError_10 : decode cX2_recordUnlessError 10 = .ok (.bipush 6, 2) := by decide +kernel
theorem dX2_recordUnlessError_12 : decode cX2_recordUnlessError 12 = .ok (.if_icmp .ge 16, 3) := by decide +kernel
theorem dX2_recordUnlessError_15 : decode cX2_recordUnlessError 15 = .ok (.aload_n 0, 1) := by decide +kernel
theorem dX2_recordUnlessError_16 : decode cX2_recordUnlessError 16 = .ok (.dup, 1) := by decide +kernel
theorem dX2_recordUnlessError_17 : decode cX2_recordUnlessError 17 = .ok (.getfield 17, 3) := by decide +kernel
theorem dX2_recordUnlessError_20 : decode cX2_recordUnlessError 20 = .ok (.iconst 1, 1) := by decide +kernel
theorem dX2_recordUnlessError_21 : decode cX2_recordUnlessError 21 = .ok (.iadd, 1) := by decide +kernel
theorem dX2_recordUnlessError_22 : decode cX2_recordUnlessError 22 = .ok (.putfield 17, 3) := by decide +kernel
theorem dX2_recordUnlessError_25 : decode cX2_recordUnlessError 25 = .ok (.goto 16, 3) := by decide +kernel
theorem dX2_recordUnlessError_28 : decode cX2_recordUnlessError 28 = .ok (.aload_n 0, 1) := by decide +kernel
theorem dX2_recordUnlessError_29 : decode cX2_recordUnlessError 29 = .ok (.aload_n 0, 1) := by decide +kernel
theorem dX2_recordUnlessError_30 : decode cX2_recordUnlessError 30 = .ok (.getfield 29, 3) := by decide +kernel
theorem dX2_recordUnlessError_33 : decode cX2_recordUnlessError 33 = .ok (.iconst 1, 1) := by decide +kernel
theorem dX2_recordUnlessError_34 : decode cX2_recordUnlessError 34 = .ok (.iadd, 1) := by decide +kernel
theorem dX2_recordUnlessError_35 : decode cX2_recordUnlessError 35 = .ok (.bipush 7, 2) := by decide +kernel
theorem dX2_recordUnlessError_37 : decode cX2_recordUnlessError 37 = .ok (.irem, 1) := by decide +kernel
theorem dX2_recordUnlessError_38 : decode cX2_recordUnlessError 38 = .ok (.putfield 29, 3) := by decide +kernel
theorem dX2_recordUnlessError_41 : decode cX2_recordUnlessError 41 = .ok (.iload_n 1, 1) := by decide +kernel
theorem dX2_recordUnlessError_42 : decode cX2_recordUnlessError 42 = .ok (.ireturn, 1) := by decide +kernel
theorem dX2_goBack_0 : decode cX2_goBack 0 = .ok (.aload_n 0, 1) := by decide +kernel
theorem dX2_goBack_1 : decode cX2_goBack 1 = .ok (.getfield 17, 3) := by decide +kernel
theorem dX2_goBack_4 : decode cX2_goBack 4 = .ok (.ifCond .ne 6, 3) := by decide +kernel
theorem dX2_goBack_7 : decode cX2_goBack 7 = .ok (.bipush (-5), 2) := by decide +kernel
theorem dX2_goBack_9 : decode cX2_goBack 9 = .ok (.ireturn, 1) := by decide +kernel
theorem dX2_goBack_10 : decode cX2_goBack 10 = .ok (.aload_n 0, 1) := by decide +kernel
theorem dX2_goBack_11 : decode cX2_goBack 11 = .ok (.dup, 1) := by decide +kernel
theorem dX2_goBack_12 : decode cX2_goBack 12 = .ok (.getfield 17, 3) := by decide +kernel
theorem dX2_goBack_15 : decode cX2_goBack 15 = .ok (.iconst 1, 1) := by decide +kernel
theorem dX2_goBack_16 : decode cX2_goBack 16 = .ok (.isub, 1) := by decide +kernel
theorem dX2_goBack_17 : decode cX2_goBack 17 = .ok (.putfield 17, 3) := by decide +kernel
theorem dX2_goBack_20 : decode cX2_goBack 20 = .ok (.aload_n 1, 1) := by decide +kernel
theorem dX2_goBack_21 : decode cX2_goBack 21 = .ok (.aload_n 0, 1) := by decide +kernel
theorem dX2_goBack_22 : decode cX2_goBack 22 = .ok (.getfield 13, 3) := by decide +kernel
theorem dX2_goBack_25 : decode cX2_goBack 25 = .ok (.aload_n 0, 1) := by decide +kernel
theorem dX2_goBack_26 : decode cX2_goBack 26 = .ok (.aload_n 0, 1) := by decide +kernel
theorem dX2_goBack_27 : decode cX2_goBack 27 = .ok (.getfield 17, 3) := by decide +kernel
theorem dX2_goBack_30 : decode cX2_goBack 30 = .ok (.invokevirtual 21, 3) := by decide +kernel
theorem dX2_goBack_33 : decode cX2_goBack 33 = .ok (.invokevirtual 32, 3) := by decide +kernel
theorem dX2_goBack_36 : decode cX2_goBack 36 = .ok (.aload_n 0, 1) := by decide +kernel
theorem dX2_goBack_37 : decode cX2_goBack 37 = .ok (.getfield 17, 3) := by decide +kernel
theorem dX2_goBack_40 : decode cX2_goBack 40 = .ok (.ireturn, 1) := by decide +kernel
theorem dX2_circleRow_0 : decode cX2_circleRow 0 = .ok (.aload_n 0, 1) := by decide +kernel
theorem dX2_circleRow_1 : decode cX2_circleRow 1 = .ok (.getfield 29, 3) := by decide +kernel
theorem dX2_circleRow_4 : decode cX2_circleRow 4 = .ok (.iload_n 1, 1) := by decide +kernel
theorem dX2_circleRow_5 : decode cX2_circleRow 5 = .ok (.iadd, 1) := by decide +kernel
theorem dX2_circleRow_6 : decode cX2_circleRow 6 = .ok (.bipush 7, 2) := by decide +kernel
theorem dX2_circleRow_8 : decode cX2_circleRow 8 = .ok (.irem, 1) := by decide +kernel
theorem dX2_circleRow_9 : decode cX2_circleRow 9 = .ok (.sipush 344, 3) := by decide +kernel
theorem dX2_circleRow_12 : decode cX2_circleRow 12 = .ok (.imul, 1) := by decide +kernel
theorem dX2_circleRow_13 : decode cX2_circleRow 13 = .ok (.ireturn, 1) := by decide +kernel
theorem dX2_isSlot_0 : decode cX2_isSlot 0 = .ok (.iload_n 0, 1) := by decide +kernel
theorem dX2_isSlot_1 : decode cX2_isSlot 1 = .ok (.ifCond .lt 12, 3) := by decide +kernel
theorem dX2_isSlot_4 : decode cX2_isSlot 4 = .ok (.iload_n 0, 1) := by decide +kernel
theorem dX2_isSlot_5 : decode cX2_isSlot 5 = .ok (.iconst 2, 1) := by decide +kernel
theorem dX2_isSlot_6 : decode cX2_isSlot 6 = .ok (.if_icmp .ge 7, 3) := by decide +kernel
theorem dX2_isSlot_9 : decode cX2_isSlot 9 = .ok (.iconst 1, 1) := by decide +kernel
theorem dX2_isSlot_10 : decode cX2_isSlot 10 = .ok (.goto 4, 3) := by decide +kernel
theorem dX2_isSlot_13 : decode cX2_isSlot 13 = .ok (.iconst 0, 1) := by decide +kernel
theorem dX2_isSlot_14 : decode cX2_isSlot 14 = .ok (.ireturn, 1) := by decide +kernel
theorem dX2_isSaved_0 : decode cX2_isSaved 0 = .ok (.aload_n 0, 1) := by decide +kernel
theorem dX2_isSaved_1 : decode cX2_isSaved 1 = .ok (.getfield 35, 3) := by decide +kernel
theorem dX2_isSaved_4 : decode cX2_isSaved 4 = .ok (.iload_n 1, 1) := by decide +kernel
theorem dX2_isSaved_5 : decode cX2_isSaved 5 = .ok (.ishr, 1) := by decide +kernel
theorem dX2_isSaved_6 : decode cX2_isSaved 6 = .ok (.iconst 1, 1) := by decide +kernel
theorem dX2_isSaved_7 : decode cX2_isSaved 7 = .ok (.iand, 1) := by decide +kernel
theorem dX2_isSaved_8 : decode cX2_isSaved 8 = .ok (.iconst 1, 1) := by decide +kernel
theorem dX2_isSaved_9 : decode cX2_isSaved 9 = .ok (.if_icmp .ne 7, 3) := by decide +kernel
theorem dX2_isSaved_12 : decode cX2_isSaved 12 = .ok (.iconst 1, 1) := by decide +kernel
theorem dX2_isSaved_13 : decode cX2_isSaved 13 = .ok (.goto 4, 3) := by decide +kernel
theorem dX2_isSaved_16 : decode cX2_isSaved 16 = .ok (.iconst 0, 1) := by decide +kernel
theorem dX2_isSaved_17 : decode cX2_isSaved 17 = .ok (.ireturn, 1) := by decide +kernel
theorem dX2_keepInSlot_0 : decode cX2_keepInSlot 0 = .ok (.aload_n 2, 1) := by decide +kernel
theorem dX2_keepInSlot_1 : decode cX2_keepInSlot 1 = .ok (.aload_n 0, 1) := by decide +kernel
theorem dX2_keepInSlot_2 : decode cX2_keepInSlot 2 = .ok (.getfield 13, 3) := by decide +kernel
theorem dX2_keepInSlot_5 : decode cX2_keepInSlot 5 = .ok (.iload_n 1, 1) := by decide +kernel
theorem dX2_keepInSlot_6 : decode cX2_keepInSlot 6 = .ok (.invokestatic 38, 3) := by decide +kernel
theorem dX2_keepInSlot_9 : decode cX2_keepInSlot 9 = .ok (.invokevirtual 25, 3) := by decide +kernel
theorem dX2_keepInSlot_12 : decode cX2_keepInSlot 12 = .ok (.aload_n 0, 1) := by decide +kernel
theorem dX2_keepInSlot_13 : decode cX2_keepInSlot 13 = .ok (.dup, 1) := by decide +kernel
theorem dX2_keepInSlot_14 : decode cX2_keepInSlot 14 = .ok (.getfield 35, 3) := by decide +kernel
theorem dX2_keepInSlot_17 : decode cX2_keepInSlot 17 = .ok (.iconst 1, 1) := by decide +kernel
theorem dX2_keepInSlot_18 : decode cX2_keepInSlot 18 = .ok (.iload_n 1, 1) := by decide +kernel
theorem dX2_keepInSlot_19 : decode cX2_keepInSlot 19 = .ok (.ishl, 1) := by decide +kernel
theorem dX2_keepInSlot_20 : decode cX2_keepInSlot 20 = .ok (.ior, 1) := by decide +kernel
theorem dX2_keepInSlot_21 : decode cX2_keepInSlot 21 = .ok (.putfield 35, 3) := by decide +kernel
theorem dX2_keepInSlot_24 : decode cX2_keepInSlot 24 = .ok (.return_, 1) := by decide +kernel
theorem dX2_bringFromSlot_0 : decode cX2_bringFromSlot 0 = .ok (.aload_n 2, 1) := by decide +kernel
theorem dX2_bringFromSlot_1 : decode cX2_bringFromSlot 1 = .ok (.aload_n 0, 1) := by decide +kernel
theorem dX2_bringFromSlot_2 : decode cX2_bringFromSlot 2 = .ok (.getfield 13, 3) := by decide +kernel
theorem dX2_bringFromSlot_5 : decode cX2_bringFromSlot 5 = .ok (.iload_n 1, 1) := by decide +kernel
theorem dX2_bringFromSlot_6 : decode cX2_bringFromSlot 6 = .ok (.invokestatic 38, 3) := by decide +kernel
theorem dX2_bringFromSlot_9 : decode cX2_bringFromSlot 9 = .ok (.invokevirtual 32, 3) := by decide +kernel
theorem dX2_bringFromSlot_12 : decode cX2_bringFromSlot 12 = .ok (.return_, 1) := by decide +kernel
theorem dX2_slotRow_0 : decode cX2_slotRow 0 = .ok (.bipush 7, 2) := by decide +kernel
theorem dX2_slotRow_2 : decode cX2_slotRow 2 = .ok (.iload_n 0, 1) := by decide +kernel
theorem dX2_slotRow_3 : decode cX2_slotRow 3 = .ok (.iadd, 1) := by decide +kernel
theorem dX2_slotRow_4 : decode cX2_slotRow 4 = .ok (.sipush 344, 3) := by decide +kernel
theorem dX2_slotRow_7 : decode cX2_slotRow 7 = .ok (.imul, 1) := by decide +kernel
theorem dX2_slotRow_8 : decode cX2_slotRow 8 = .ok (.ireturn, 1) := by decide +kernel
theorem dX3_firstFault_0 : decode cX3_firstFault 0 = .ok (.iconst 0, 1) := by decide +kernel
theorem dX3_firstFault_1 : decode cX3_firstFault 1 = .ok (.istore_n 1, 1) := by decide +kernel
theorem dX3_firstFault_2 : decode cX3_firstFault 2 = .ok (.iconst 0, 1) := by decide +kernel
theorem dX3_firstFault_3 : decode cX3_firstFault 3 = .ok (.istore_n 2, 1) := by decide +kernel
theorem dX3_firstFault_4 : decode cX3_firstFault 4 = .ok (.iload_n 2, 1) := by decide +kernel
theorem dX3_firstFault_5 : decode cX3_firstFault 5 = .ok (.bipush 80, 2) := by decide +kernel
theorem dX3_firstFault_7 : decode cX3_firstFault 7 = .ok (.if_icmp .ge 121, 3) := by decide +kernel
theorem dX3_firstFault_10 : decode cX3_firstFault 10 = .ok (.aload_n 0, 1) := by decide +kernel
theorem dX3_firstFault_11 : decode cX3_firstFault 11 = .ok (.iload_n 1, 1) := by decide +kernel
theorem dX3_firstFault_12 : decode cX3_firstFault 12 = .ok (.invokevirtual 11, 3) := by decide +kernel
theorem dX3_firstFault_15 : decode cX3_firstFault 15 = .ok (.invokestatic 15, 3) := by decide +kernel
theorem dX3_firstFault_18 : decode cX3_firstFault 18 = .ok (.astore_n 3, 1) := by decide +kernel
theorem dX3_firstFault_19 : decode cX3_firstFault 19 = .ok (.aload_n 3, 1) := by decide +kernel
theorem dX3_firstFault_20 : decode cX3_firstFault 20 = .ok (.invokevirtual 21, 3) := by decide +kernel
theorem dX3_firstFault_23 : decode cX3_firstFault 23 = .ok (.ifCond .eq 5, 3) := by decide +kernel
theorem dX3_firstFault_26 : decode cX3_firstFault 26 = .ok (.iload_n 1, 1) := by decide +kernel
theorem dX3_firstFault_27 : decode cX3_firstFault 27 = .ok (.ireturn, 1) := by decide +kernel
theorem dX3_firstFault_28 : decode cX3_firstFault 28 = .ok (.iconst 0, 1) := by decide +kernel
theorem dX3_firstFault_29 : decode cX3_firstFault 29 = .ok (.istore 4, 2) := by decide +kernel
theorem dX3_firstFault_31 : decode cX3_firstFault 31 = .ok (.iload 4, 2) := by decide +kernel
theorem dX3_firstFault_33 : decode cX3_firstFault 33 = .ok (.aload_n 3, 1) := by decide +kernel
theorem dX3_firstFault_34 : decode cX3_firstFault 34 = .ok (.invokevirtual 27, 3) := by decide +kernel
theorem dX3_firstFault_37 : decode cX3_firstFault 37 = .ok (.if_icmp .ge 31, 3) := by decide +kernel
theorem dX3_firstFault_40 : decode cX3_firstFault 40 = .ok (.aload_n 3, 1) := by decide +kernel
theorem dX3_firstFault_41 : decode cX3_firstFault 41 = .ok (.iload 4, 2) := by decide +kernel
theorem dX3_firstFault_43 : decode cX3_firstFault 43 = .ok (.invokevirtual 31, 3) := by decide +kernel
theorem dX3_firstFault_46 : decode cX3_firstFault 46 = .ok (.aload_n 0, 1) := by decide +kernel
theorem dX3_firstFault_47 : decode cX3_firstFault 47 = .ok (.iload_n 1, 1) := by decide +kernel
theorem dX3_firstFault_48 : decode cX3_firstFault 48 = .ok (.invokevirtual 11, 3) := by decide +kernel
theorem dX3_firstFault_51 : decode cX3_firstFault 51 = .ok (.invokestatic 35, 3) := by decide +kernel
theorem dX3_firstFault_54 : decode cX3_firstFault 54 = .ok (.ifCond .ne 5, 3) := by decide +kernel
theorem dX3_firstFault_57 : decode cX3_firstFault 57 = .ok (.iload_n 1, 1) := by decide +kernel
theorem dX3_firstFault_58 : decode cX3_firstFault 58 = .ok (.ireturn, 1) := by decide +kernel
theorem dX3_firstFault_59 : decode cX3_firstFault 59 = .ok (.iinc 1 1, 3) := by decide +kernel
theorem dX3_firstFault_62 : decode cX3_firstFault 62 = .ok (.iinc 4 1, 3) := by decide +kernel
theorem dX3_firstFault_65 : decode cX3_firstFault 65 = .ok (.goto (-34), 3) := by decide +kernel
theorem dX3_firstFault_68 : decode cX3_firstFault 68 = .ok (.aload_n 3, 1) := by decide +kernel
theorem dX3_firstFault_69 : decode cX3_firstFault 69 = .ok (.aload_n 3, 1) := by decide +kernel
theorem dX3_firstFault_70 : decode cX3_firstFault 70 = .ok (.invokevirtual 27, 3) := by decide +kernel
theorem dX3_firstFault_73 : decode cX3_firstFault 73 = .ok (.iconst 1, 1) := by decide +kernel
theorem dX3_firstFault_74 : decode cX3_firstFault 74 = .ok (.isub, 1) := by decide +kernel
theorem dX3_firstFault_75 : decode cX3_firstFault 75 = .ok (.invokevirtual 31, 3) := by decide +kernel
theorem dX3_firstFault_78 : decode cX3_firstFault 78 = .ok (.bipush 78, 2) := by decide +kernel
theorem dX3_firstFault_80 : decode cX3_firstFault 80 = .ok (.if_icmp .ne 16, 3) := by decide +kernel
theorem dX3_firstFault_83 : decode cX3_firstFault 83 = .ok (.aload_n 0, 1) := by decide +kernel
theorem dX3_firstFault_84 : decode cX3_firstFault 84 = .ok (.iload_n 1, 1) := by decide +kernel
theorem dX3_firstFault_85 : decode cX3_firstFault 85 = .ok (.iconst 1, 1) := by decide +kernel
theorem dX3_firstFault_86 : decode cX3_firstFault 86 = .ok (.isub, 1) := by decide +kernel
theorem dX3_firstFault_87 : decode cX3_firstFault 87 = .ok (.invokestatic 39, 3) := by decide +kernel
theorem dX3_firstFault_90 : decode cX3_firstFault 90 = .ok (.ifCond .eq 6, 3) := by decide +kernel
theorem dX3_firstFault_93 : decode cX3_firstFault 93 = .ok (.iinc 1 1, 3) := by decide +kernel
theorem dX3_firstFault_96 : decode cX3_firstFault 96 = .ok (.iload_n 1, 1) := by decide +kernel
theorem dX3_firstFault_97 : decode cX3_firstFault 97 = .ok (.aload_n 0, 1) := by decide +kernel
theorem dX3_firstFault_98 : decode cX3_firstFault 98 = .ok (.invokevirtual 43, 3) := by decide +kernel
theorem dX3_firstFault_101 : decode cX3_firstFault 101 = .ok (.if_icmp .ne 6, 3) := by decide +kernel
theorem dX3_firstFault_104 : decode cX3_firstFault 104 = .ok (.bipush (-6), 2) := by decide +kernel
theorem dX3_firstFault_106 : decode cX3_firstFault 106 = .ok (.ireturn, 1) := by decide +kernel
theorem dX3_firstFault_107 : decode cX3_firstFault 107 = .ok (.aload_n 0, 1) := by decide +kernel
theorem dX3_firstFault_108 : decode cX3_firstFault 108 = .ok (.iload_n 1, 1) := by decide +kernel
theorem dX3_firstFault_109 : decode cX3_firstFault 109 = .ok (.invokevirtual 11, 3) := by decide +kernel
theorem dX3_firstFault_112 : decode cX3_firstFault 112 = .ok (.bipush 59, 2) := by decide +kernel
theorem dX3_firstFault_114 : decode cX3_firstFault 114 = .ok (.if_icmp .eq 5, 3) := by decide +kernel
theorem dX3_firstFault_117 : decode cX3_firstFault 117 = .ok (.iload_n 1, 1) := by decide +kernel
theorem dX3_firstFault_118 : decode cX3_firstFault 118 = .ok (.ireturn, 1) := by decide +kernel
theorem dX3_firstFault_119 : decode cX3_firstFault 119 = .ok (.iinc 1 1, 3) := by decide +kernel
theorem dX3_firstFault_122 : decode cX3_firstFault 122 = .ok (.iinc 2 1, 3) := by decide +kernel
theorem dX3_firstFault_125 : decode cX3_firstFault 125 = .ok (.goto (-121), 3) := by decide +kernel
theorem dX3_firstFault_128 : decode cX3_firstFault 128 = .ok (.iload_n 1, 1) := by decide +kernel
theorem dX3_firstFault_129 : decode cX3_firstFault 129 = .ok (.ireturn, 1) := by decide +kernel
theorem dX3_shapeOf_0 : decode cX3_shapeOf 0 = .ok (.iload_n 0, 1) := by decide +kernel
theorem dX3_shapeOf_1 : decode cX3_shapeOf 1 = .ok (.tableswitch 109 98 116 #[103, 106, 109, 109, 109, 109, 91, 109, 109, 109, 109, 109, 109, 109, 94, 109, 109, 97, 100], 91) := by decide +kernel
theorem dX3_shapeOf_92 : decode cX3_shapeOf 92 = .ok (.ldc 44, 2) := by decide +kernel
theorem dX3_shapeOf_94 : decode cX3_shapeOf 94 = .ok (.areturn, 1) := by decide +kernel
theorem dX3_shapeOf_95 : decode cX3_shapeOf 95 = .ok (.ldc 46, 2) := by decide +kernel
theorem dX3_shapeOf_97 : decode cX3_shapeOf 97 = .ok (.areturn, 1) := by decide +kernel
theorem dX3_shapeOf_98 : decode cX3_shapeOf 98 = .ok (.ldc 48, 2) := by decide +kernel
theorem dX3_shapeOf_100 : decode cX3_shapeOf 100 = .ok (.areturn, 1) := by decide +kernel
theorem dX3_shapeOf_101 : decode cX3_shapeOf 101 = .ok (.ldc 50, 2) := by decide +kernel
theorem dX3_shapeOf_103 : decode cX3_shapeOf 103 = .ok (.areturn, 1) := by decide +kernel
theorem dX3_shapeOf_104 : decode cX3_shapeOf 104 = .ok (.ldc 52, 2) := by decide +kernel
theorem dX3_shapeOf_106 : decode cX3_shapeOf 106 = .ok (.areturn, 1) := by decide +kernel
theorem dX3_shapeOf_107 : decode cX3_shapeOf 107 = .ok (.ldc 54, 2) := by decide +kernel
theorem dX3_shapeOf_109 : decode cX3_shapeOf 109 = .ok (.areturn, 1) := by decide +kernel
theorem dX3_shapeOf_110 : decode cX3_shapeOf 110 = .ok (.ldc 56, 2) := by decide +kernel
theorem dX3_shapeOf_112 : decode cX3_shapeOf 112 = .ok (.areturn, 1) := by decide +kernel
theorem dX3_fits_0 : decode cX3_fits 0 = .ok (.iload_n 0, 1) := by decide +kernel
theorem dX3_fits_1 : decode cX3_fits 1 = .ok (.lookupswitch 110 #[(67, 56), (68, 51), (78, 51), (79, 74), (83, 92)], 51) := by decide +kernel
theorem dX3_fits_52 : decode cX3_fits 52 = .ok (.iload_n 1, 1) := by decide +kernel
theorem dX3_fits_53 : decode cX3_fits 53 = .ok (.invokestatic 58, 3) := by decide +kernel
theorem dX3_fits_56 : decode cX3_fits 56 = .ok (.ireturn, 1) := by decide +kernel
theorem dX3_fits_57 : decode cX3_fits 57 = .ok (.iload_n 1, 1) := by decide +kernel
theorem dX3_fits_58 : decode cX3_fits 58 = .ok (.bipush 49, 2) := by decide +kernel
theorem dX3_fits_60 : decode cX3_fits 60 = .ok (.if_icmp .lt 13, 3) := by decide +kernel
theorem dX3_fits_63 : decode cX3_fits 63 = .ok (.iload_n 1, 1) := by decide +kernel
theorem dX3_fits_64 : decode cX3_fits 64 = .ok (.bipush 54, 2) := by decide +kernel
theorem dX3_fits_66 : decode cX3_fits 66 = .ok (.if_icmp .gt 7, 3) := by decide +kernel
theorem dX3_fits_69 : decode cX3_fits 69 = .ok (.iconst 1, 1) := by decide +kernel
theorem dX3_fits_70 : decode cX3_fits 70 = .ok (.goto 4, 3) := by decide +kernel
theorem dX3_fits_73 : decode cX3_fits 73 = .ok (.iconst 0, 1) := by decide +kernel
theorem dX3_fits_74 : decode cX3_fits 74 = .ok (.ireturn, 1) := by decide +kernel
theorem dX3_fits_75 : decode cX3_fits 75 = .ok (.iload_n 1, 1) := by decide +kernel
theorem dX3_fits_76 : decode cX3_fits 76 = .ok (.bipush 48, 2) := by decide +kernel
theorem dX3_fits_78 : decode cX3_fits 78 = .ok (.if_icmp .lt 13, 3) := by decide +kernel
theorem dX3_fits_81 : decode cX3_fits 81 = .ok (.iload_n 1, 1) := by decide +kernel
theorem dX3_fits_82 : decode cX3_fits 82 = .ok (.bipush 54, 2) := by decide +kernel
theorem dX3_fits_84 : decode cX3_fits 84 = .ok (.if_icmp .gt 7, 3) := by decide +kernel
theorem dX3_fits_87 : decode cX3_fits 87 = .ok (.iconst 1, 1) := by decide +kernel
theorem dX3_fits_88 : decode cX3_fits 88 = .ok (.goto 4, 3) := by decide +kernel
theorem dX3_fits_91 : decode cX3_fits 91 = .ok (.iconst 0, 1) := by decide +kernel
theorem dX3_fits_92 : decode cX3_fits 92 = .ok (.ireturn, 1) := by decide +kernel
theorem dX3_fits_93 : decode cX3_fits 93 = .ok (.iload_n 1, 1) := by decide +kernel
theorem dX3_fits_94 : decode cX3_fits 94 = .ok (.bipush 43, 2) := by decide +kernel
theorem dX3_fits_96 : decode cX3_fits 96 = .ok (.if_icmp .eq 9, 3) := by decide +kernel
theorem dX3_fits_99 : decode cX3_fits 99 = .ok (.iload_n 1, 1) := by decide +kernel
theorem dX3_fits_100 : decode cX3_fits 100 = .ok (.bipush 45, 2) := by decide +kernel
theorem dX3_fits_102 : decode cX3_fits 102 = .ok (.if_icmp .ne 7, 3) := by decide +kernel
theorem dX3_fits_105 : decode cX3_fits 105 = .ok (.iconst 1, 1) := by decide +kernel
theorem dX3_fits_106 : decode cX3_fits 106 = .ok (.goto 4, 3) := by decide +kernel
theorem dX3_fits_109 : decode cX3_fits 109 = .ok (.iconst 0, 1) := by decide +kernel
theorem dX3_fits_110 : decode cX3_fits 110 = .ok (.ireturn, 1) := by decide +kernel
theorem dX3_fits_111 : decode cX3_fits 111 = .ok (.iload_n 1, 1) := by decide +kernel
theorem dX3_fits_112 : decode cX3_fits 112 = .ok (.iload_n 0, 1) := by decide +kernel
theorem dX3_fits_113 : decode cX3_fits 113 = .ok (.if_icmp .ne 7, 3) := by decide +kernel
theorem dX3_fits_116 : decode cX3_fits 116 = .ok (.iconst 1, 1) := by decide +kernel
theorem dX3_fits_117 : decode cX3_fits 117 = .ok (.goto 4, 3) := by decide +kernel
theorem dX3_fits_120 : decode cX3_fits 120 = .ok (.iconst 0, 1) := by decide +kernel
theorem dX3_fits_121 : decode cX3_fits 121 = .ok (.ireturn, 1) := by decide +kernel
theorem dX3_isDigit_0 : decode cX3_isDigit 0 = .ok (.iload_n 0, 1) := by decide +kernel
theorem dX3_isDigit_1 : decode cX3_isDigit 1 = .ok (.bipush 48, 2) := by decide +kernel
theorem dX3_isDigit_3 : decode cX3_isDigit 3 = .ok (.if_icmp .lt 13, 3) := by decide +kernel
theorem dX3_isDigit_6 : decode cX3_isDigit 6 = .ok (.iload_n 0, 1) := by decide +kernel
theorem dX3_isDigit_7 : decode cX3_isDigit 7 = .ok (.bipush 57, 2) := by decide +kernel
theorem dX3_isDigit_9 : decode cX3_isDigit 9 = .ok (.if_icmp .gt 7, 3) := by decide +kernel
theorem dX3_isDigit_12 : decode cX3_isDigit 12 = .ok (.iconst 1, 1) := by decide +kernel
theorem dX3_isDigit_13 : decode cX3_isDigit 13 = .ok (.goto 4, 3) := by decide +kernel
theorem dX3_isDigit_16 : decode cX3_isDigit 16 = .ok (.iconst 0, 1) := by decide +kernel
theorem dX3_isDigit_17 : decode cX3_isDigit 17 = .ok (.ireturn, 1) := by decide +kernel
theorem dX3_hasSecondDigit_0 : decode cX3_hasSecondDigit 0 = .ok (.aload_n 0, 1) := by decide +kernel
theorem dX3_hasSecondDigit_1 : decode cX3_hasSecondDigit 1 = .ok (.iload_n 1, 1) := by decide +kernel
theorem dX3_hasSecondDigit_2 : decode cX3_hasSecondDigit 2 = .ok (.invokevirtual 11, 3) := by decide +kernel
theorem dX3_hasSecondDigit_5 : decode cX3_hasSecondDigit 5 = .ok (.bipush 48, 2) := by decide +kernel
theorem dX3_hasSecondDigit_7 : decode cX3_hasSecondDigit 7 = .ok (.if_icmp .eq 20, 3) := by decide +kernel
theorem dX3_hasSecondDigit_10 : decode cX3_hasSecondDigit 10 = .ok (.aload_n 0, 1) := by decide +kernel
theorem dX3_hasSecondDigit_11 : decode cX3_hasSecondDigit 11 = .ok (.iload_n 1, 1) := by decide +kernel
theorem dX3_hasSecondDigit_12 : decode cX3_hasSecondDigit 12 = .ok (.iconst 1, 1) := by decide +kernel
theorem dX3_hasSecondDigit_13 : decode cX3_hasSecondDigit 13 = .ok (.iadd, 1) := by decide +kernel
theorem dX3_hasSecondDigit_14 : decode cX3_hasSecondDigit 14 = .ok (.invokevirtual 11, 3) := by decide +kernel
theorem dX3_hasSecondDigit_17 : decode cX3_hasSecondDigit 17 = .ok (.invokestatic 58, 3) := by decide +kernel
theorem dX3_hasSecondDigit_20 : decode cX3_hasSecondDigit 20 = .ok (.ifCond .eq 7, 3) := by decide +kernel
theorem dX3_hasSecondDigit_23 : decode cX3_hasSecondDigit 23 = .ok (.iconst 1, 1) := by decide +kernel
theorem dX3_hasSecondDigit_24 : decode cX3_hasSecondDigit 24 = .ok (.goto 4, 3) := by decide +kernel
theorem dX3_hasSecondDigit_27 : decode cX3_hasSecondDigit 27 = .ok (.iconst 0, 1) := by decide +kernel
theorem dX3_hasSecondDigit_28 : decode cX3_hasSecondDigit 28 = .ok (.ireturn, 1) := by decide +kernel
theorem dX3_beginsAt_0 : decode cX3_beginsAt 0 = .ok (.iload_n 1, 1) := by decide +kernel
theorem dX3_beginsAt_1 : decode cX3_beginsAt 1 = .ok (.ifCond .eq 15, 3) := by decide +kernel
theorem dX3_beginsAt_4 : decode cX3_beginsAt 4 = .ok (.aload_n 0, 1) := by decide +kernel
theorem dX3_beginsAt_5 : decode cX3_beginsAt 5 = .ok (.iload_n 1, 1) := by decide +kernel
theorem dX3_beginsAt_6 : decode cX3_beginsAt 6 = .ok (.iconst 1, 1) := by decide +kernel
theorem dX3_beginsAt_7 : decode cX3_beginsAt 7 = .ok (.isub, 1) := by decide +kernel
theorem dX3_beginsAt_8 : decode cX3_beginsAt 8 = .ok (.invokevirtual 11, 3) := by decide +kernel
theorem dX3_beginsAt_11 : decode cX3_beginsAt 11 = .ok (.bipush 59, 2) := by decide +kernel
theorem dX3_beginsAt_13 : decode cX3_beginsAt 13 = .ok (.if_icmp .ne 7, 3) := by decide +kernel
theorem dX3_beginsAt_16 : decode cX3_beginsAt 16 = .ok (.iconst 1, 1) := by decide +kernel
theorem dX3_beginsAt_17 : decode cX3_beginsAt 17 = .ok (.goto 4, 3) := by decide +kernel
theorem dX3_beginsAt_20 : decode cX3_beginsAt 20 = .ok (.iconst 0, 1) := by decide +kernel
theorem dX3_beginsAt_21 : decode cX3_beginsAt 21 = .ok (.ireturn, 1) := by decide +kernel
theorem dX3_obey_0 : decode cX3_obey 0 = .ok (.aload_n 0, 1) := by decide +kernel
theorem dX3_obey_1 : decode cX3_obey 1 = .ok (.iload_n 1, 1) := by decide +kernel
theorem dX3_obey_2 : decode cX3_obey 2 = .ok (.iconst 1, 1) := by decide +kernel
theorem dX3_obey_3 : decode cX3_obey 3 = .ok (.iadd, 1) := by decide +kernel
theorem dX3_obey_4 : decode cX3_obey 4 = .ok (.invokestatic 62, 3) := by decide +kernel
theorem dX3_obey_7 : decode cX3_obey 7 = .ok (.istore 4, 2) := by decide +kernel
theorem dX3_obey_9 : decode cX3_obey 9 = .ok (.aload_n 0, 1) := by decide +kernel
theorem dX3_obey_10 : decode cX3_obey 10 = .ok (.iload_n 1, 1) := by decide +kernel
theorem dX3_obey_11 : decode cX3_obey 11 = .ok (.iconst 2, 1) := by decide +kernel
theorem dX3_obey_12 : decode cX3_obey 12 = .ok (.iadd, 1) := by decide +kernel
theorem dX3_obey_13 : decode cX3_obey 13 = .ok (.invokestatic 62, 3) := by decide +kernel
theorem dX3_obey_16 : decode cX3_obey 16 = .ok (.istore 5, 2) := by decide +kernel
theorem dX3_obey_18 : decode cX3_obey 18 = .ok (.aload_n 0, 1) := by decide +kernel
theorem dX3_obey_19 : decode cX3_obey 19 = .ok (.iload_n 1, 1) := by decide +kernel
theorem dX3_obey_20 : decode cX3_obey 20 = .ok (.iconst 3, 1) := by decide +kernel
theorem dX3_obey_21 : decode cX3_obey 21 = .ok (.iadd, 1) := by decide +kernel
theorem dX3_obey_22 : decode cX3_obey 22 = .ok (.invokestatic 62, 3) := by decide +kernel
theorem dX3_obey_25 : decode cX3_obey 25 = .ok (.istore 6, 2) := by decide +kernel
theorem dX3_obey_27 : decode cX3_obey 27 = .ok (.aload_n 0, 1) := by decide +kernel
theorem dX3_obey_28 : decode cX3_obey 28 = .ok (.iload_n 1, 1) := by decide +kernel
theorem dX3_obey_29 : decode cX3_obey 29 = .ok (.invokevirtual 11, 3) := by decide +kernel
theorem dX3_obey_32 : decode cX3_obey 32 = .ok (.lookupswitch 132 #[(98, 104), (104, 52), (112, 61), (115, 79), (116, 90)], 52) := by decide +kernel
theorem dX3_obey_84 : decode cX3_obey 84 = .ok (.aload_n 2, 1) := by decide +kernel
theorem dX3_obey_85 : decode cX3_obey 85 = .ok (.iload 4, 2) := by decide +kernel
theorem dX3_obey_87 : decode cX3_obey 87 = .ok (.iload 5, 2) := by decide +kernel
theorem dX3_obey_89 : decode cX3_obey 89 = .ok (.invokestatic 66, 3) := by decide +kernel
theorem dX3_obey_92 : decode cX3_obey 92 = .ok (.ireturn, 1) := by decide +kernel
theorem dX3_obey_93 : decode cX3_obey 93 = .ok (.aload_n 2, 1) := by decide +kernel
theorem dX3_obey_94 : decode cX3_obey 94 = .ok (.iload 4, 2) := by decide +kernel
theorem dX3_obey_96 : decode cX3_obey 96 = .ok (.iload 5, 2) := by decide +kernel
theorem dX3_obey_98 : decode cX3_obey 98 = .ok (.iload 6, 2) := by decide +kernel
theorem dX3_obey_100 : decode cX3_obey 100 = .ok (.aload_n 0, 1) := by decide +kernel
theorem dX3_obey_101 : decode cX3_obey 101 = .ok (.iload_n 1, 1) := by decide +kernel
theorem dX3_obey_102 : decode cX3_obey 102 = .ok (.iconst 5, 1) := by decide +kernel
theorem dX3_obey_103 : decode cX3_obey 103 = .ok (.iadd, 1) := by decide +kernel
theorem dX3_obey_104 : decode cX3_obey 104 = .ok (.invokestatic 72, 3) := by decide +kernel
theorem dX3_obey_107 : decode cX3_obey 107 = .ok (.invokestatic 75, 3) := by decide +kernel
theorem dX3_obey_110 : decode cX3_obey 110 = .ok (.ireturn, 1) := by decide +kernel
theorem dX3_obey_111 : decode cX3_obey 111 = .ok (.aload_n 2, 1) := by decide +kernel
theorem dX3_obey_112 : decode cX3_obey 112 = .ok (.iload 4, 2) := by decide +kernel
theorem dX3_obey_114 : decode cX3_obey 114 = .ok (.iload 5, 2) := by decide +kernel
theorem dX3_obey_116 : decode cX3_obey 116 = .ok (.iload 6, 2) := by decide +kernel
theorem dX3_obey_118 : decode cX3_obey 118 = .ok (.invokestatic 79, 3) := by decide +kernel
theorem dX3_obey_121 : decode cX3_obey 121 = .ok (.ireturn, 1) := by decide +kernel
theorem dX3_obey_122 : decode cX3_obey 122 = .ok (.aload_n 2, 1) := by decide +kernel
theorem dX3_obey_123 : decode cX3_obey 123 = .ok (.iload 4, 2) := by decide +kernel
theorem dX3_obey_125 : decode cX3_obey 125 = .ok (.aload_n 0, 1) := by decide +kernel
theorem dX3_obey_126 : decode cX3_obey 126 = .ok (.iload_n 1, 1) := by decide +kernel
theorem dX3_obey_127 : decode cX3_obey 127 = .ok (.iconst 3, 1) := by decide +kernel
theorem dX3_obey_128 : decode cX3_obey 128 = .ok (.iadd, 1) := by decide +kernel
theorem dX3_obey_129 : decode cX3_obey 129 = .ok (.invokestatic 83, 3) := by decide +kernel
theorem dX3_obey_132 : decode cX3_obey 132 = .ok (.invokestatic 86, 3) := by decide +kernel
theorem dX3_obey_135 : decode cX3_obey 135 = .ok (.ireturn, 1) := by decide +kernel
theorem dX3_obey_136 : decode cX3_obey 136 = .ok (.aload_n 2, 1) := by decide +kernel
theorem dX3_obey_137 : decode cX3_obey 137 = .ok (.aload_n 3, 1) := by decide +kernel
theorem dX3_obey_138 : decode cX3_obey 138 = .ok (.iload 4, 2) := by decide +kernel
theorem dX3_obey_140 : decode cX3_obey 140 = .ok (.aload_n 0, 1) := by decide +kernel
theorem dX3_obey_141 : decode cX3_obey 141 = .ok (.iload_n 1, 1) := by decide +kernel
theorem dX3_obey_142 : decode cX3_obey 142 = .ok (.iconst 2, 1) := by decide +kernel
theorem dX3_obey_143 : decode cX3_obey 143 = .ok (.iadd, 1) := by decide +kernel
theorem dX3_obey_144 : decode cX3_obey 144 = .ok (.invokevirtual 11, 3) := by decide +kernel
theorem dX3_obey_147 : decode cX3_obey 147 = .ok (.bipush 45, 2) := by decide +kernel
theorem dX3_obey_149 : decode cX3_obey 149 = .ok (.if_icmp .ne 7, 3) := by decide +kernel
theorem dX3_obey_152 : decode cX3_obey 152 = .ok (.iconst 1, 1) := by decide +kernel
theorem dX3_obey_153 : decode cX3_obey 153 = .ok (.goto 4, 3) := by decide +kernel
theorem dX3_obey_156 : decode cX3_obey 156 = .ok (.iconst 0, 1) := by decide +kernel
theorem dX3_obey_157 : decode cX3_obey 157 = .ok (.invokestatic 89, 3) := by decide +kernel
theorem dX3_obey_160 : decode cX3_obey 160 = .ok (.invokestatic 93, 3) := by decide +kernel
theorem dX3_obey_163 : decode cX3_obey 163 = .ok (.ireturn, 1) := by decide +kernel
theorem dX3_obey_164 : decode cX3_obey 164 = .ok (.aload_n 2, 1) := by decide +kernel
theorem dX3_obey_165 : decode cX3_obey 165 = .ok (.invokestatic 97, 3) := by decide +kernel
theorem dX3_obey_168 : decode cX3_obey 168 = .ok (.ireturn, 1) := by decide +kernel
theorem dX3_digit_0 : decode cX3_digit 0 = .ok (.aload_n 0, 1) := by decide +kernel
theorem dX3_digit_1 : decode cX3_digit 1 = .ok (.iload_n 1, 1) := by decide +kernel
theorem dX3_digit_2 : decode cX3_digit 2 = .ok (.invokevirtual 11, 3) := by decide +kernel
theorem dX3_digit_5 : decode cX3_digit 5 = .ok (.bipush 48, 2) := by decide +kernel
theorem dX3_digit_7 : decode cX3_digit 7 = .ok (.isub, 1) := by decide +kernel
theorem dX3_digit_8 : decode cX3_digit 8 = .ok (.ireturn, 1) := by decide +kernel
theorem dX3_numberAt_0 : decode cX3_numberAt 0 = .ok (.aload_n 0, 1) := by decide +kernel
theorem dX3_numberAt_1 : decode cX3_numberAt 1 = .ok (.iload_n 1, 1) := by decide +kernel
theorem dX3_numberAt_2 : decode cX3_numberAt 2 = .ok (.invokestatic 62, 3) := by decide +kernel
theorem dX3_numberAt_5 : decode cX3_numberAt 5 = .ok (.istore_n 2, 1) := by decide +kernel
theorem dX3_numberAt_6 : decode cX3_numberAt 6 = .ok (.aload_n 0, 1) := by decide +kernel
theorem dX3_numberAt_7 : decode cX3_numberAt 7 = .ok (.iload_n 1, 1) := by decide +kernel
theorem dX3_numberAt_8 : decode cX3_numberAt 8 = .ok (.invokestatic 39, 3) := by decide +kernel
theorem dX3_numberAt_11 : decode cX3_numberAt 11 = .ok (.ifCond .eq 18, 3) := by decide +kernel
theorem dX3_numberAt_14 : decode cX3_numberAt 14 = .ok (.iload_n 2, 1) := by decide +kernel
theorem dX3_numberAt_15 : decode cX3_numberAt 15 = .ok (.bipush 10, 2) := by decide +kernel
theorem dX3_numberAt_17 : decode cX3_numberAt 17 = .ok (.imul, 1) := by decide +kernel
theorem dX3_numberAt_18 : decode cX3_numberAt 18 = .ok (.aload_n 0, 1) := by decide +kernel
theorem dX3_numberAt_19 : decode cX3_numberAt 19 = .ok (.iload_n 1, 1) := by decide +kernel
theorem dX3_numberAt_20 : decode cX3_numberAt 20 = .ok (.iconst 1, 1) := by decide +kernel
theorem dX3_numberAt_21 : decode cX3_numberAt 21 = .ok (.iadd, 1) := by decide +kernel
theorem dX3_numberAt_22 : decode cX3_numberAt 22 = .ok (.invokestatic 62, 3) := by decide +kernel
theorem dX3_numberAt_25 : decode cX3_numberAt 25 = .ok (.iadd, 1) := by decide +kernel
theorem dX3_numberAt_26 : decode cX3_numberAt 26 = .ok (.goto 4, 3) := by decide +kernel
theorem dX3_numberAt_29 : decode cX3_numberAt 29 = .ok (.iload_n 2, 1) := by decide +kernel
theorem dX3_numberAt_30 : decode cX3_numberAt 30 = .ok (.ireturn, 1) := by decide +kernel
theorem dX3_colourRow_0 : decode cX3_colourRow 0 = .ok (.iconst 0, 1) := by decide +kernel
theorem dX3_colourRow_1 : decode cX3_colourRow 1 = .ok (.istore_n 2, 1) := by decide +kernel
theorem dX3_colourRow_2 : decode cX3_colourRow 2 = .ok (.bipush 7, 2) := by decide +kernel
theorem dX3_colourRow_4 : decode cX3_colourRow 4 = .ok (.istore_n 3, 1) := by decide +kernel
theorem dX3_colourRow_5 : decode cX3_colourRow 5 = .ok (.iload_n 3, 1) := by decide +kernel
theorem dX3_colourRow_6 : decode cX3_colourRow 6 = .ok (.ifCond .lt 21, 3) := by decide +kernel
theorem dX3_colourRow_9 : decode cX3_colourRow 9 = .ok (.iload_n 2, 1) := by decide +kernel
theorem dX3_colourRow_10 : decode cX3_colourRow 10 = .ok (.iconst 3, 1) := by decide +kernel
theorem dX3_colourRow_11 : decode cX3_colourRow 11 = .ok (.ishl, 1) := by decide +kernel
theorem dX3_colourRow_12 : decode cX3_colourRow 12 = .ok (.aload_n 0, 1) := by decide +kernel
theorem dX3_colourRow_13 : decode cX3_colourRow 13 = .ok (.iload_n 1, 1) := by decide +kernel
theorem dX3_colourRow_14 : decode cX3_colourRow 14 = .ok (.iload_n 3, 1) := by decide +kernel
theorem dX3_colourRow_15 : decode cX3_colourRow 15 = .ok (.iadd, 1) := by decide +kernel
theorem dX3_colourRow_16 : decode cX3_colourRow 16 = .ok (.invokestatic 62, 3) := by decide +kernel
theorem dX3_colourRow_19 : decode cX3_colourRow 19 = .ok (.ior, 1) := by decide +kernel
theorem dX3_colourRow_20 : decode cX3_colourRow 20 = .ok (.istore_n 2, 1) := by decide +kernel
theorem dX3_colourRow_21 : decode cX3_colourRow 21 = .ok (.iinc 3 (-1), 3) := by decide +kernel
theorem dX3_colourRow_24 : decode cX3_colourRow 24 = .ok (.goto (-19), 3) := by decide +kernel
theorem dX3_colourRow_27 : decode cX3_colourRow 27 = .ok (.iload_n 2, 1) := by decide +kernel
theorem dX3_colourRow_28 : decode cX3_colourRow 28 = .ok (.ireturn, 1) := by decide +kernel
theorem dX4_init_0 : decode cX4_init 0 = .ok (.aload_n 0, 1) := by decide +kernel
theorem dX4_init_1 : decode cX4_init 1 = .ok (.invokespecial 3, 3) := by decide +kernel
theorem dX4_init_4 : decode cX4_init 4 = .ok (.aload_n 0, 1) := by decide +kernel
theorem dX4_init_5 : decode cX4_init 5 = .ok (.bipush 80, 2) := by decide +kernel
theorem dX4_init_7 : decode cX4_init 7 = .ok (.newarray .int, 2) := by decide +kernel
theorem dX4_init_9 : decode cX4_init 9 = .ok (.putfield 11, 3) := by decide +kernel
theorem dX4_init_12 : decode cX4_init 12 = .ok (.return_, 1) := by decide +kernel
theorem dX4_length_0 : decode cX4_length 0 = .ok (.aload_n 0, 1) := by decide +kernel
theorem dX4_length_1 : decode cX4_length 1 = .ok (.getfield 15, 3) := by decide +kernel
theorem dX4_length_4 : decode cX4_length 4 = .ok (.ireturn, 1) := by decide +kernel
theorem dX4_empty_0 : decode cX4_empty 0 = .ok (.aload_n 0, 1) := by decide +kernel
theorem dX4_empty_1 : decode cX4_empty 1 = .ok (.iconst 0, 1) := by decide +kernel
theorem dX4_empty_2 : decode cX4_empty 2 = .ok (.putfield 15, 3) := by decide +kernel
theorem dX4_empty_5 : decode cX4_empty 5 = .ok (.return_, 1) := by decide +kernel
theorem dX4_sign_0 : decode cX4_sign 0 = .ok (.iload_n 1, 1) := by decide +kernel
theorem dX4_sign_1 : decode cX4_sign 1 = .ok (.ifCond .lt 29, 3) := by decide +kernel
theorem dX4_sign_4 : decode cX4_sign 4 = .ok (.iload_n 1, 1) := by decide +kernel
theorem dX4_sign_5 : decode cX4_sign 5 = .ok (.aload_n 0, 1) := by decide +kernel
theorem dX4_sign_6 : decode cX4_sign 6 = .ok (.getfield 15, 3) := by decide +kernel
theorem dX4_sign_9 : decode cX4_sign 9 = .ok (.if_icmp .ge 21, 3) := by decide +kernel
theorem dX4_sign_12 : decode cX4_sign 12 = .ok (.iload_n 1, 1) := by decide +kernel
theorem dX4_sign_13 : decode cX4_sign 13 = .ok (.aload_n 0, 1) := by decide +kernel
theorem dX4_sign_14 : decode cX4_sign 14 = .ok (.getfield 11, 3) := by decide +kernel
theorem dX4_sign_17 : decode cX4_sign 17 = .ok (.arraylength, 1) := by decide +kernel
theorem dX4_sign_18 : decode cX4_sign 18 = .ok (.if_icmp .ge 12, 3) := by decide +kernel
theorem dX4_sign_21 : decode cX4_sign 21 = .ok (.aload_n 0, 1) := by decide +kernel
theorem dX4_sign_22 : decode cX4_sign 22 = .ok (.getfield 11, 3) := by decide +kernel
theorem dX4_sign_25 : decode cX4_sign 25 = .ok (.iload_n 1, 1) := by decide +kernel
theorem dX4_sign_26 : decode cX4_sign 26 = .ok (.iaload, 1) := by decide +kernel
theorem dX4_sign_27 : decode cX4_sign 27 = .ok (.goto 4, 3) := by decide +kernel
theorem dX4_sign_30 : decode cX4_sign 30 = .ok (.iconst 0, 1) := by decide +kernel
theorem dX4_sign_31 : decode cX4_sign 31 = .ok (.ireturn, 1) := by decide +kernel
theorem dX4_append_0 : decode cX4_append 0 = .ok (.lload_n 1, 1) := by decide +kernel
theorem dX4_append_1 : decode cX4_append 1 = .ok (.invokestatic 19, 3) := by decide +kernel
theorem dX4_append_4 : decode cX4_append 4 = .ok (.istore_n 3, 1) := by decide +kernel
theorem dX4_append_5 : decode cX4_append 5 = .ok (.iload_n 3, 1) := by decide +kernel
theorem dX4_append_6 : decode cX4_append 6 = .ok (.ifCond .ne 6, 3) := by decide +kernel
theorem dX4_append_9 : decode cX4_append 9 = .ok (.bipush (-2), 2) := by decide +kernel
theorem dX4_append_11 : decode cX4_append 11 = .ok (.ireturn, 1) := by decide +kernel
theorem dX4_append_12 : decode cX4_append 12 = .ok (.aload_n 0, 1) := by decide +kernel
theorem dX4_append_13 : decode cX4_append 13 = .ok (.getfield 15, 3) := by decide +kernel
theorem dX4_append_16 : decode cX4_append 16 = .ok (.iload_n 3, 1) := by decide +kernel
theorem dX4_append_17 : decode cX4_append 17 = .ok (.iadd, 1) := by decide +kernel
theorem dX4_append_18 : decode cX4_append 18 = .ok (.bipush 80, 2) := by decide +kernel
theorem dX4_append_20 : decode cX4_append 20 = .ok (.if_icmp .le 6, 3) := by decide +kernel
theorem dX4_append_23 : decode cX4_append 23 = .ok (.bipush (-4), 2) := by decide +kernel
theorem dX4_append_25 : decode cX4_append 25 = .ok (.ireturn, 1) := by decide +kernel
theorem dX4_append_26 : decode cX4_append 26 = .ok (.iload_n 3, 1) := by decide +kernel
theorem dX4_append_27 : decode cX4_append 27 = .ok (.iconst 1, 1) := by decide +kernel
theorem dX4_append_28 : decode cX4_append 28 = .ok (.isub, 1) := by decide +kernel
theorem dX4_append_29 : decode cX4_append 29 = .ok (.istore 4, 2) := by decide +kernel
theorem dX4_append_31 : decode cX4_append 31 = .ok (.iload 4, 2) := by decide +kernel
theorem dX4_append_33 : decode cX4_append 33 = .ok (.ifCond .lt 25, 3) := by decide +kernel
theorem dX4_append_36 : decode cX4_append 36 = .ok (.aload_n 0, 1) := by decide +kernel
theorem dX4_append_37 : decode cX4_append 37 = .ok (.lload_n 1, 1) := by decide +kernel
theorem dX4_append_38 : decode cX4_append 38 = .ok (.bipush 8, 2) := by decide +kernel
theorem dX4_append_40 : decode cX4_append 40 = .ok (.iload 4, 2) := by decide +kernel
theorem dX4_append_42 : decode cX4_append 42 = .ok (.imul, 1) := by decide +kernel
theorem dX4_append_43 : decode cX4_append 43 = .ok (.lushr, 1) := by decide +kernel
theorem dX4_append_44 : decode cX4_append 44 = .ok (.ldc2_w 23, 3) := by decide +kernel
theorem dX4_append_47 : decode cX4_append 47 = .ok (.land, 1) := by decide +kernel
theorem dX4_append_48 : decode cX4_append 48 = .ok (.l2i, 1) := by decide +kernel
theorem dX4_append_49 : decode cX4_append 49 = .ok (.invokevirtual 25, 3) := by decide +kernel
theorem dX4_append_52 : decode cX4_append 52 = .ok (.iinc 4 (-1), 3) := by decide +kernel
theorem dX4_append_55 : decode cX4_append 55 = .ok (.goto (-24), 3) := by decide +kernel
theorem dX4_append_58 : decode cX4_append 58 = .ok (.aload_n 0, 1) := by decide +kernel
theorem dX4_append_59 : decode cX4_append 59 = .ok (.getfield 15, 3) := by decide +kernel
theorem dX4_append_62 : decode cX4_append 62 = .ok (.ireturn, 1) := by decide +kernel
theorem dX4_amountOf_0 : decode cX4_amountOf 0 = .ok (.lload_n 0, 1) := by decide +kernel
theorem dX4_amountOf_1 : decode cX4_amountOf 1 = .ok (.lstore_n 2, 1) := by decide +kernel
theorem dX4_amountOf_2 : decode cX4_amountOf 2 = .ok (.iconst 0, 1) := by decide +kernel
theorem dX4_amountOf_3 : decode cX4_amountOf 3 = .ok (.istore 4, 2) := by decide +kernel
theorem dX4_amountOf_5 : decode cX4_amountOf 5 = .ok (.iload 4, 2) := by decide +kernel
theorem dX4_amountOf_7 : decode cX4_amountOf 7 = .ok (.bipush 8, 2) := by decide +kernel
theorem dX4_amountOf_9 : decode cX4_amountOf 9 = .ok (.if_icmp .ge 47, 3) := by decide +kernel
theorem dX4_amountOf_12 : decode cX4_amountOf 12 = .ok (.lload_n 2, 1) := by decide +kernel
theorem dX4_amountOf_13 : decode cX4_amountOf 13 = .ok (.lconst 0, 1) := by decide +kernel
theorem dX4_amountOf_14 : decode cX4_amountOf 14 = .ok (.lcmp, 1) := by decide +kernel
theorem dX4_amountOf_15 : decode cX4_amountOf 15 = .ok (.ifCond .eq 41, 3) := by decide +kernel
theorem dX4_amountOf_18 : decode cX4_amountOf 18 = .ok (.lload_n 2, 1) := by decide +kernel
theorem dX4_amountOf_19 : decode cX4_amountOf 19 = .ok (.ldc2_w 23, 3) := by decide +kernel
theorem dX4_amountOf_22 : decode cX4_amountOf 22 = .ok (.land, 1) := by decide +kernel
theorem dX4_amountOf_23 : decode cX4_amountOf 23 = .ok (.lstore 5, 2) := by decide +kernel
theorem dX4_amountOf_25 : decode cX4_amountOf 25 = .ok (.lload 5, 2) := by decide +kernel
theorem dX4_amountOf_27 : decode cX4_amountOf 27 = .ok (.ldc2_w 29, 3) := by decide +kernel
theorem dX4_amountOf_30 : decode cX4_amountOf 30 = .ok (.lcmp, 1) := by decide +kernel
theorem dX4_amountOf_31 : decode cX4_amountOf 31 = .ok (.ifCond .lt 12, 3) := by decide +kernel
theorem dX4_amountOf_34 : decode cX4_amountOf 34 = .ok (.lload 5, 2) := by decide +kernel
theorem dX4_amountOf_36 : decode cX4_amountOf 36 = .ok (.ldc2_w 31, 3) := by decide +kernel
theorem dX4_amountOf_39 : decode cX4_amountOf 39 = .ok (.lcmp, 1) := by decide +kernel
theorem dX4_amountOf_40 : decode cX4_amountOf 40 = .ok (.ifCond .le 5, 3) := by decide +kernel
theorem dX4_amountOf_43 : decode cX4_amountOf 43 = .ok (.iconst 0, 1) := by decide +kernel
theorem dX4_amountOf_44 : decode cX4_amountOf 44 = .ok (.ireturn, 1) := by decide +kernel
theorem dX4_amountOf_45 : decode cX4_amountOf 45 = .ok (.lload_n 2, 1) := by decide +kernel
theorem dX4_amountOf_46 : decode cX4_amountOf 46 = .ok (.bipush 8, 2) := by decide +kernel
theorem dX4_amountOf_48 : decode cX4_amountOf 48 = .ok (.lushr, 1) := by decide +kernel
theorem dX4_amountOf_49 : decode cX4_amountOf 49 = .ok (.lstore_n 2, 1) := by decide +kernel
theorem dX4_amountOf_50 : decode cX4_amountOf 50 = .ok (.iinc 4 1, 3) := by decide +kernel
theorem dX4_amountOf_53 : decode cX4_amountOf 53 = .ok (.goto (-48), 3) := by decide +kernel
theorem dX4_amountOf_56 : decode cX4_amountOf 56 = .ok (.iload 4, 2) := by decide +kernel
theorem dX4_amountOf_58 : decode cX4_amountOf 58 = .ok (.ireturn, 1) := by decide +kernel
theorem dX4_addSign_0 : decode cX4_addSign 0 = .ok (.aload_n 0, 1) := by decide +kernel
theorem dX4_addSign_1 : decode cX4_addSign 1 = .ok (.getfield 15, 3) := by decide +kernel
theorem dX4_addSign_4 : decode cX4_addSign 4 = .ok (.ifCond .lt 15, 3) := by decide +kernel
theorem dX4_addSign_7 : decode cX4_addSign 7 = .ok (.aload_n 0, 1) := by decide +kernel
theorem dX4_addSign_8 : decode cX4_addSign 8 = .ok (.getfield 15, 3) := by decide +kernel
theorem dX4_addSign_11 : decode cX4_addSign 11 = .ok (.aload_n 0, 1) := by decide +kernel
theorem dX4_addSign_12 : decode cX4_addSign 12 = .ok (.getfield 11, 3) := by decide +kernel
theorem dX4_addSign_15 : decode cX4_addSign 15 = .ok (.arraylength, 1) := by decide +kernel
theorem dX4_addSign_16 : decode cX4_addSign 16 = .ok (.if_icmp .lt 4, 3) := by decide +kernel
theorem dX4_addSign_19 : decode cX4_addSign 19 = .ok (.return_, 1) := by decide +kernel
theorem dX4_addSign_20 : decode cX4_addSign 20 = .ok (.aload_n 0, 1) := by decide +kernel
theorem dX4_addSign_21 : decode cX4_addSign 21 = .ok (.getfield 11, 3) := by decide +kernel
theorem dX4_addSign_24 : decode cX4_addSign 24 = .ok (.aload_n 0, 1) := by decide +kernel
theorem dX4_addSign_25 : decode cX4_addSign 25 = .ok (.getfield 15, 3) := by decide +kernel
theorem dX4_addSign_28 : decode cX4_addSign 28 = .ok (.iload_n 1, 1) := by decide +kernel
theorem dX4_addSign_29 : decode cX4_addSign 29 = .ok (.iastore, 1) := by decide +kernel
theorem dX4_addSign_30 : decode cX4_addSign 30 = .ok (.aload_n 0, 1) := by decide +kernel
theorem dX4_addSign_31 : decode cX4_addSign 31 = .ok (.dup, 1) := by decide +kernel
theorem dX4_addSign_32 : decode cX4_addSign 32 = .ok (.getfield 15, 3) := by decide +kernel
theorem dX4_addSign_35 : decode cX4_addSign 35 = .ok (.iconst 1, 1) := by decide +kernel
theorem dX4_addSign_36 : decode cX4_addSign 36 = .ok (.iadd, 1) := by decide +kernel
theorem dX4_addSign_37 : decode cX4_addSign 37 = .ok (.putfield 15, 3) := by decide +kernel
theorem dX4_addSign_40 : decode cX4_addSign 40 = .ok (.return_, 1) := by decide +kernel
theorem dJ0_length_8abf5_0 : decode cJ0_length_8abf5 0 = .ok (.aload_n 0, 1) := by decide +kernel
theorem dJ0_length_8abf5_1 : decode cJ0_length_8abf5 1 = .ok (.getfield 9, 3) := by decide +kernel
theorem dJ0_length_8abf5_4 : decode cJ0_length_8abf5 4 = .ok (.arraylength, 1) := by decide +kernel
theorem dJ0_length_8abf5_5 : decode cJ0_length_8abf5 5 = .ok (.aload_n 0, 1) := by decide +kernel
theorem dJ0_length_8abf5_6 : decode cJ0_length_8abf5 6 = .ok (.invokevirtual 335, 3) := by decide +kernel
theorem dJ0_length_8abf5_9 : decode cJ0_length_8abf5 9 = .ok (.ishr, 1) := by decide +kernel
theorem dJ0_length_8abf5_10 : decode cJ0_length_8abf5 10 = .ok (.ireturn, 1) := by decide +kernel
theorem dJ0_isEmpty_aae02_0 : decode cJ0_isEmpty_aae02 0 = .ok (.aload_n 0, 1) := by decide +kernel
theorem dJ0_isEmpty_aae02_1 : decode cJ0_isEmpty_aae02 1 = .ok (.getfield 9, 3) := by decide +kernel
theorem dJ0_isEmpty_aae02_4 : decode cJ0_isEmpty_aae02 4 = .ok (.arraylength, 1) := by decide +kernel
theorem dJ0_isEmpty_aae02_5 : decode cJ0_isEmpty_aae02 5 = .ok (.ifCond .ne 7, 3) := by decide +kernel
theorem dJ0_isEmpty_aae02_8 : decode cJ0_isEmpty_aae02 8 = .ok (.iconst 1, 1) := by decide +kernel
theorem dJ0_isEmpty_aae02_9 : decode cJ0_isEmpty_aae02 9 = .ok (.goto 4, 3) := by decide +kernel
theorem dJ0_isEmpty_aae02_12 : decode cJ0_isEmpty_aae02 12 = .ok (.iconst 0, 1) := by decide +kernel
theorem dJ0_isEmpty_aae02_13 : decode cJ0_isEmpty_aae02 13 = .ok (.ireturn, 1) := by decide +kernel
theorem dJ0_charAt_5068e_0 : decode cJ0_charAt_5068e 0 = .ok (.aload_n 0, 1) := by decide +kernel
theorem dJ0_charAt_5068e_1 : decode cJ0_charAt_5068e 1 = .ok (.invokevirtual 492, 3) := by decide +kernel
theorem dJ0_charAt_5068e_4 : decode cJ0_charAt_5068e 4 = .ok (.ifCond .eq 12, 3) := by decide +kernel
theorem dJ0_charAt_5068e_7 : decode cJ0_charAt_5068e 7 = .ok (.aload_n 0, 1) := by decide +kernel
theorem dJ0_charAt_5068e_8 : decode cJ0_charAt_5068e 8 = .ok (.getfield 9, 3) := by decide +kernel
theorem dJ0_charAt_5068e_11 : decode cJ0_charAt_5068e 11 = .ok (.iload_n 1, 1) := by decide +kernel
theorem dJ0_charAt_5068e_12 : decode cJ0_charAt_5068e 12 = .ok (.invokestatic 495, 3) := by decide +kernel
theorem dJ0_charAt_5068e_15 : decode cJ0_charAt_5068e 15 = .ok (.ireturn, 1) := by decide +kernel
theorem dJ0_charAt_5068e_16 : decode cJ0_charAt_5068e 16 = .ok (.aload_n 0, 1) := by decide +kernel
theorem dJ0_charAt_5068e_17 : decode cJ0_charAt_5068e 17 = .ok (.getfield 9, 3) := by decide +kernel
theorem dJ0_charAt_5068e_20 : decode cJ0_charAt_5068e 20 = .ok (.iload_n 1, 1) := by decide +kernel
theorem dJ0_charAt_5068e_21 : decode cJ0_charAt_5068e 21 = .ok (.invokestatic 498, 3) := by decide +kernel
theorem dJ0_charAt_5068e_24 : decode cJ0_charAt_5068e 24 = .ok (.ireturn, 1) := by decide +kernel
theorem dJ0_coder_7d493_0 : decode cJ0_coder_7d493 0 = .ok (.getstatic 38, 3) := by decide +kernel
theorem dJ0_coder_7d493_3 : decode cJ0_coder_7d493 3 = .ok (.ifCond .eq 10, 3) := by decide +kernel
theorem dJ0_coder_7d493_6 : decode cJ0_coder_7d493 6 = .ok (.aload_n 0, 1) := by decide +kernel
theorem dJ0_coder_7d493_7 : decode cJ0_coder_7d493 7 = .ok (.getfield 15, 3) := by decide +kernel
theorem dJ0_coder_7d493_10 : decode cJ0_coder_7d493 10 = .ok (.goto 4, 3) := by decide +kernel
theorem dJ0_coder_7d493_13 : decode cJ0_coder_7d493 13 = .ok (.iconst 1, 1) := by decide +kernel
theorem dJ0_coder_7d493_14 : decode cJ0_coder_7d493 14 = .ok (.ireturn, 1) := by decide +kernel
theorem dJ0_isLatin1_aae02_0 : decode cJ0_isLatin1_aae02 0 = .ok (.getstatic 38, 3) := by decide +kernel
theorem dJ0_isLatin1_aae02_3 : decode cJ0_isLatin1_aae02 3 = .ok (.ifCond .eq 14, 3) := by decide +kernel
theorem dJ0_isLatin1_aae02_6 : decode cJ0_isLatin1_aae02 6 = .ok (.aload_n 0, 1) := by decide +kernel
theorem dJ0_isLatin1_aae02_7 : decode cJ0_isLatin1_aae02 7 = .ok (.getfield 15, 3) := by decide +kernel
theorem dJ0_isLatin1_aae02_10 : decode cJ0_isLatin1_aae02 10 = .ok (.ifCond .ne 7, 3) := by decide +kernel
theorem dJ0_isLatin1_aae02_13 : decode cJ0_isLatin1_aae02 13 = .ok (.iconst 1, 1) := by decide +kernel
theorem dJ0_isLatin1_aae02_14 : decode cJ0_isLatin1_aae02 14 = .ok (.goto 4, 3) := by decide +kernel
theorem dJ0_isLatin1_aae02_17 : decode cJ0_isLatin1_aae02 17 = .ok (.iconst 0, 1) := by decide +kernel
theorem dJ0_isLatin1_aae02_18 : decode cJ0_isLatin1_aae02 18 = .ok (.ireturn, 1) := by decide +kernel
theorem dJ0_checkIndex_df160_0 : decode cJ0_checkIndex_df160 0 = .ok (.iload_n 0, 1) := by decide +kernel
theorem dJ0_checkIndex_df160_1 : decode cJ0_checkIndex_df160 1 = .ok (.iload_n 1, 1) := by decide +kernel
theorem dJ0_checkIndex_df160_2 : decode cJ0_checkIndex_df160 2 = .ok (.getstatic 1053, 3) := by decide +kernel
theorem dJ0_checkIndex_df160_5 : decode cJ0_checkIndex_df160 5 = .ok (.invokestatic 1059, 3) := by decide +kernel
theorem dJ0_checkIndex_df160_8 : decode cJ0_checkIndex_df160 8 = .ok (.pop, 1) := by decide +kernel
theorem dJ0_checkIndex_df160_9 : decode cJ0_checkIndex_df160 9 = .ok (.return_, 1) := by decide +kernel
theorem dJ1_charAt_3b067_0 : decode cJ1_charAt_3b067 0 = .ok (.iload_n 1, 1) := by decide +kernel
theorem dJ1_charAt_3b067_1 : decode cJ1_charAt_3b067 1 = .ok (.aload_n 0, 1) := by decide +kernel
theorem dJ1_charAt_3b067_2 : decode cJ1_charAt_3b067 2 = .ok (.arraylength, 1) := by decide +kernel
theorem dJ1_charAt_3b067_3 : decode cJ1_charAt_3b067 3 = .ok (.invokestatic 9, 3) := by decide +kernel
theorem dJ1_charAt_3b067_6 : decode cJ1_charAt_3b067 6 = .ok (.aload_n 0, 1) := by decide +kernel
theorem dJ1_charAt_3b067_7 : decode cJ1_charAt_3b067 7 = .ok (.iload_n 1, 1) := by decide +kernel
theorem dJ1_charAt_3b067_8 : decode cJ1_charAt_3b067 8 = .ok (.baload, 1) := by decide +kernel
theorem dJ1_charAt_3b067_9 : decode cJ1_charAt_3b067 9 = .ok (.sipush 255, 3) := by decide +kernel
theorem dJ1_charAt_3b067_12 : decode cJ1_charAt_3b067 12 = .ok (.iand, 1) := by decide +kernel
theorem dJ1_charAt_3b067_13 : decode cJ1_charAt_3b067 13 = .ok (.i2c, 1) := by decide +kernel
theorem dJ1_charAt_3b067_14 : decode cJ1_charAt_3b067 14 = .ok (.ireturn, 1) := by decide +kernel
theorem dJ2_getChar_3b067_0 : decode cJ2_getChar_3b067 0 = .ok (.getstatic 44, 3) := by decide +kernel
theorem dJ2_getChar_3b067_3 : decode cJ2_getChar_3b067 3 = .ok (.ifCond .ne 25, 3) := by decide +kernel
theorem dJ2_getChar_3b067_6 : decode cJ2_getChar_3b067 6 = .ok (.iload_n 1, 1) := by decide +kernel
theorem dJ2_getChar_3b067_7 : decode cJ2_getChar_3b067 7 = .ok (.ifCond .lt 11, 3) := by decide +kernel
theorem dJ2_getChar_3b067_10 : decode cJ2_getChar_3b067 10 = .ok (.iload_n 1, 1) := by decide +kernel
theorem dJ2_getChar_3b067_11 : decode cJ2_getChar_3b067 11 = .ok (.aload_n 0, 1) := by decide +kernel
theorem dJ2_getChar_3b067_12 : decode cJ2_getChar_3b067 12 = .ok (.invokestatic 48, 3) := by decide +kernel
theorem dJ2_getChar_3b067_15 : decode cJ2_getChar_3b067 15 = .ok (.if_icmp .lt 13, 3) := by decide +kernel
theorem dJ2_getChar_3b067_18 : decode cJ2_getChar_3b067 18 = .ok (.new 52, 3) := by decide +kernel
theorem dJ2_getChar_3b067_21 : decode cJ2_getChar_3b067 21 = .ok (.dup, 1) := by decide +kernel
theorem dJ2_getChar_3b067_22 : decode cJ2_getChar_3b067 22 = .ok (.ldc 54, 2) := by decide +kernel
theorem dJ2_getChar_3b067_24 : decode cJ2_getChar_3b067 24 = .ok (.invokespecial 56, 3) := by decide +kernel
theorem dJ2_getChar_3b067_27 : decode cJ2_getChar_3b067 27 = .ok (.athrow, 1) := by decide +kernel
theorem dJ2_getChar_3b067_28 : decode cJ2_getChar_3b067 28 = .ok (.iload_n 1, 1) := by decide +kernel
theorem dJ2_getChar_3b067_29 : decode cJ2_getChar_3b067 29 = .ok (.iconst 1, 1) := by decide +kernel
theorem dJ2_getChar_3b067_30 : decode cJ2_getChar_3b067 30 = .ok (.ishl, 1) := by decide +kernel
theorem dJ2_getChar_3b067_31 : decode cJ2_getChar_3b067 31 = .ok (.istore_n 1, 1) := by decide +kernel
theorem dJ2_getChar_3b067_32 : decode cJ2_getChar_3b067 32 = .ok (.aload_n 0, 1) := by decide +kernel
theorem dJ2_getChar_3b067_33 : decode cJ2_getChar_3b067 33 = .ok (.iload_n 1, 1) := by decide +kernel
theorem dJ2_getChar_3b067_34 : decode cJ2_getChar_3b067 34 = .ok (.iinc 1 1, 3) := by decide +kernel
theorem dJ2_getChar_3b067_37 : decode cJ2_getChar_3b067 37 = .ok (.baload, 1) := by decide +kernel
theorem dJ2_getChar_3b067_38 : decode cJ2_getChar_3b067 38 = .ok (.sipush 255, 3) := by decide +kernel
theorem dJ2_getChar_3b067_41 : decode cJ2_getChar_3b067 41 = .ok (.iand, 1) := by decide +kernel
theorem dJ2_getChar_3b067_42 : decode cJ2_getChar_3b067 42 = .ok (.getstatic 59, 3) := by decide +kernel
theorem dJ2_getChar_3b067_45 : decode cJ2_getChar_3b067 45 = .ok (.ishl, 1) := by decide +kernel
theorem dJ2_getChar_3b067_46 : decode cJ2_getChar_3b067 46 = .ok (.aload_n 0, 1) := by decide +kernel
theorem dJ2_getChar_3b067_47 : decode cJ2_getChar_3b067 47 = .ok (.iload_n 1, 1) := by decide +kernel
theorem dJ2_getChar_3b067_48 : decode cJ2_getChar_3b067 48 = .ok (.baload, 1) := by decide +kernel
theorem dJ2_getChar_3b067_49 : decode cJ2_getChar_3b067 49 = .ok (.sipush 255, 3) := by decide +kernel
theorem dJ2_getChar_3b067_52 : decode cJ2_getChar_3b067 52 = .ok (.iand, 1) := by decide +kernel
theorem dJ2_getChar_3b067_53 : decode cJ2_getChar_3b067 53 = .ok (.getstatic 63, 3) := by decide +kernel
theorem dJ2_getChar_3b067_56 : decode cJ2_getChar_3b067 56 = .ok (.ishl, 1) := by decide +kernel
theorem dJ2_getChar_3b067_57 : decode cJ2_getChar_3b067 57 = .ok (.ior, 1) := by decide +kernel
theorem dJ2_getChar_3b067_58 : decode cJ2_getChar_3b067 58 = .ok (.i2c, 1) := by decide +kernel
theorem dJ2_getChar_3b067_59 : decode cJ2_getChar_3b067 59 = .ok (.ireturn, 1) := by decide +kernel
theorem dJ2_length_9d52b_0 : decode cJ2_length_9d52b 0 = .ok (.aload_n 0, 1) := by decide +kernel
theorem dJ2_length_9d52b_1 : decode cJ2_length_9d52b 1 = .ok (.arraylength, 1) := by decide +kernel
theorem dJ2_length_9d52b_2 : decode cJ2_length_9d52b 2 = .ok (.iconst 1, 1) := by decide +kernel
theorem dJ2_length_9d52b_3 : decode cJ2_length_9d52b 3 = .ok (.ishr, 1) := by decide +kernel
theorem dJ2_length_9d52b_4 : decode cJ2_length_9d52b 4 = .ok (.ireturn, 1) := by decide +kernel
theorem dJ2_charAt_3b067_0 : decode cJ2_charAt_3b067 0 = .ok (.iload_n 1, 1) := by decide +kernel
theorem dJ2_charAt_3b067_1 : decode cJ2_charAt_3b067 1 = .ok (.aload_n 0, 1) := by decide +kernel
theorem dJ2_charAt_3b067_2 : decode cJ2_charAt_3b067 2 = .ok (.invokestatic 67, 3) := by decide +kernel
theorem dJ2_charAt_3b067_5 : decode cJ2_charAt_3b067 5 = .ok (.aload_n 0, 1) := by decide +kernel
theorem dJ2_charAt_3b067_6 : decode cJ2_charAt_3b067 6 = .ok (.iload_n 1, 1) := by decide +kernel
theorem dJ2_charAt_3b067_7 : decode cJ2_charAt_3b067 7 = .ok (.invokestatic 71, 3) := by decide +kernel
theorem dJ2_charAt_3b067_10 : decode cJ2_charAt_3b067 10 = .ok (.ireturn, 1) := by decide +kernel
theorem dJ2_checkIndex_2214a_0 : decode cJ2_checkIndex_2214a 0 = .ok (.iload_n 0, 1) := by decide +kernel
theorem dJ2_checkIndex_2214a_1 : decode cJ2_checkIndex_2214a 1 = .ok (.aload_n 1, 1) := by decide +kernel
theorem dJ2_checkIndex_2214a_2 : decode cJ2_checkIndex_2214a 2 = .ok (.invokestatic 48, 3) := by decide +kernel
theorem dJ2_checkIndex_2214a_5 : decode cJ2_checkIndex_2214a 5 = .ok (.invokestatic 414, 3) := by decide +kernel
theorem dJ2_checkIndex_2214a_8 : decode cJ2_checkIndex_2214a 8 = .ok (.return_, 1) := by decide +kernel
theorem dJ3_checkIndex_8e157_0 : decode cJ3_checkIndex_8e157 0 = .ok (.iload_n 0, 1) := by decide +kernel
theorem dJ3_checkIndex_8e157_1 : decode cJ3_checkIndex_8e157 1 = .ok (.ifCond .lt 8, 3) := by decide +kernel
theorem dJ3_checkIndex_8e157_4 : decode cJ3_checkIndex_8e157 4 = .ok (.iload_n 0, 1) := by decide +kernel
theorem dJ3_checkIndex_8e157_5 : decode cJ3_checkIndex_8e157 5 = .ok (.iload_n 1, 1) := by decide +kernel
theorem dJ3_checkIndex_8e157_6 : decode cJ3_checkIndex_8e157 6 = .ok (.if_icmp .lt 10, 3) := by decide +kernel
theorem dJ3_checkIndex_8e157_9 : decode cJ3_checkIndex_8e157 9 = .ok (.aload_n 2, 1) := by decide +kernel
theorem dJ3_checkIndex_8e157_10 : decode cJ3_checkIndex_8e157 10 = .ok (.iload_n 0, 1) := by decide +kernel
theorem dJ3_checkIndex_8e157_11 : decode cJ3_checkIndex_8e157 11 = .ok (.iload_n 1, 1) := by decide +kernel
theorem dJ3_checkIndex_8e157_12 : decode cJ3_checkIndex_8e157 12 = .ok (.invokestatic 95, 3) := by decide +kernel
theorem dJ3_checkIndex_8e157_15 : decode cJ3_checkIndex_8e157 15 = .ok (.athrow, 1) := by decide +kernel
theorem dJ3_checkIndex_8e157_16 : decode cJ3_checkIndex_8e157 16 = .ok (.iload_n 0, 1) := by decide +kernel
theorem dJ3_checkIndex_8e157_17 : decode cJ3_checkIndex_8e157 17 = .ok (.ireturn, 1) := by decide +kernel
theorem dJ9_max_7cf53_0 : decode cJ9_max_7cf53 0 = .ok (.iload_n 0, 1) := by decide +kernel
theorem dJ9_max_7cf53_1 : decode cJ9_max_7cf53 1 = .ok (.iload_n 1, 1) := by decide +kernel
theorem dJ9_max_7cf53_2 : decode cJ9_max_7cf53 2 = .ok (.if_icmp .lt 7, 3) := by decide +kernel
theorem dJ9_max_7cf53_5 : decode cJ9_max_7cf53 5 = .ok (.iload_n 0, 1) := by decide +kernel
theorem dJ9_max_7cf53_6 : decode cJ9_max_7cf53 6 = .ok (.goto 4, 3) := by decide +kernel
theorem dJ9_max_7cf53_9 : decode cJ9_max_7cf53 9 = .ok (.iload_n 1, 1) := by decide +kernel
theorem dJ9_max_7cf53_10 : decode cJ9_max_7cf53 10 = .ok (.ireturn, 1) := by decide +kernel
theorem dJ9_min_7cf53_0 : decode cJ9_min_7cf53 0 = .ok (.iload_n 0, 1) := by decide +kernel
theorem dJ9_min_7cf53_1 : decode cJ9_min_7cf53 1 = .ok (.iload_n 1, 1) := by decide +kernel
theorem dJ9_min_7cf53_2 : decode cJ9_min_7cf53 2 = .ok (.if_icmp .gt 7, 3) := by decide +kernel
theorem dJ9_min_7cf53_5 : decode cJ9_min_7cf53 5 = .ok (.iload_n 0, 1) := by decide +kernel
theorem dJ9_min_7cf53_6 : decode cJ9_min_7cf53 6 = .ok (.goto 4, 3) := by decide +kernel
theorem dJ9_min_7cf53_9 : decode cJ9_min_7cf53 9 = .ok (.iload_n 1, 1) := by decide +kernel
theorem dJ9_min_7cf53_10 : decode cJ9_min_7cf53 10 = .ok (.ireturn, 1) := by decide +kernel
end
section
theorem dX5_init_0 : decode cX5_init 0 = .ok (.aload_n 0, 1) := by decide +kernel
theorem dX5_init_1 : decode cX5_init 1 = .ok (.invokespecial 5, 3) := by decide +kernel
theorem dX5_init_4 : decode cX5_init 4 = .ok (.aload_n 0, 1) := by decide +kernel
theorem dX5_init_5 : decode cX5_init 5 = .ok (.sipush 344, 3) := by decide +kernel
theorem dX5_init_8 : decode cX5_init 8 = .ok (.newarray .int, 2) := by decide +kernel
theorem dX5_init_10 : decode cX5_init 10 = .ok (.putfield 11, 3) := by decide +kernel
theorem dX5_init_13 : decode cX5_init 13 = .ok (.aload_n 0, 1) := by decide +kernel
theorem dX5_init_14 : decode cX5_init 14 = .ok (.iconst 0, 1) := by decide +kernel
theorem dX5_init_15 : decode cX5_init 15 = .ok (.iconst 5, 1) := by decide +kernel
theorem dX5_init_16 : decode cX5_init 16 = .ok (.invokevirtual 15, 3) := by decide +kernel
theorem dX5_init_19 : decode cX5_init 19 = .ok (.aload_n 0, 1) := by decide +kernel
theorem dX5_init_20 : decode cX5_init 20 = .ok (.iconst 1, 1) := by decide +kernel
theorem dX5_init_21 : decode cX5_init 21 = .ok (.bipush 12, 2) := by decide +kernel
theorem dX5_init_23 : decode cX5_init 23 = .ok (.invokevirtual 15, 3) := by decide +kernel
theorem dX5_init_26 : decode cX5_init 26 = .ok (.aload_n 0, 1) := by decide +kernel
theorem dX5_init_27 : decode cX5_init 27 = .ok (.iconst 2, 1) := by decide +kernel
theorem dX5_init_28 : decode cX5_init 28 = .ok (.iconst 1, 1) := by decide +kernel
theorem dX5_init_29 : decode cX5_init 29 = .ok (.invokevirtual 15, 3) := by decide +kernel
theorem dX5_init_32 : decode cX5_init 32 = .ok (.iconst 1, 1) := by decide +kernel
theorem dX5_init_33 : decode cX5_init 33 = .ok (.istore_n 1, 1) := by decide +kernel
theorem dX5_init_34 : decode cX5_init 34 = .ok (.iload_n 1, 1) := by decide +kernel
theorem dX5_init_35 : decode cX5_init 35 = .ok (.bipush 6, 2) := by decide +kernel
theorem dX5_init_37 : decode cX5_init 37 = .ok (.if_icmp .gt 20, 3) := by decide +kernel
theorem dX5_init_40 : decode cX5_init 40 = .ok (.aload_n 0, 1) := by decide +kernel
theorem dX5_init_41 : decode cX5_init 41 = .ok (.bipush 8, 2) := by decide +kernel
theorem dX5_init_43 : decode cX5_init 43 = .ok (.iload_n 1, 1) := by decide +kernel
theorem dX5_init_44 : decode cX5_init 44 = .ok (.iadd, 1) := by decide +kernel
theorem dX5_init_45 : decode cX5_init 45 = .ok (.sipush 300, 3) := by decide +kernel
theorem dX5_init_48 : decode cX5_init 48 = .ok (.invokevirtual 15, 3) := by decide +kernel
theorem dX5_init_51 : decode cX5_init 51 = .ok (.iinc 1 1, 3) := by decide +kernel
theorem dX5_init_54 : decode cX5_init 54 = .ok (.goto (-20), 3) := by decide +kernel
theorem dX5_init_57 : decode cX5_init 57 = .ok (.aload_n 0, 1) := by decide +kernel
theorem dX5_init_58 : decode cX5_init 58 = .ok (.invokevirtual 19, 3) := by decide +kernel
theorem dX5_init_61 : decode cX5_init 61 = .ok (.return_, 1) := by decide +kernel
theorem dX5_number_0 : decode cX5_number 0 = .ok (.iload_n 1, 1) := by decide +kernel
theorem dX5_number_1 : decode cX5_number 1 = .ok (.ifCond .lt 21, 3) := by decide +kernel
theorem dX5_number_4 : decode cX5_number 4 = .ok (.iload_n 1, 1) := by decide +kernel
theorem dX5_number_5 : decode cX5_number 5 = .ok (.aload_n 0, 1) := by decide +kernel
theorem dX5_number_6 : decode cX5_number 6 = .ok (.getfield 11, 3) := by decide +kernel
theorem dX5_number_9 : decode cX5_number 9 = .ok (.arraylength, 1) := by decide +kernel
theorem dX5_number_10 : decode cX5_number 10 = .ok (.if_icmp .ge 12, 3) := by decide +kernel
theorem dX5_number_13 : decode cX5_number 13 = .ok (.aload_n 0, 1) := by decide +kernel
theorem dX5_number_14 : decode cX5_number 14 = .ok (.getfield 11, 3) := by decide +kernel
theorem dX5_number_17 : decode cX5_number 17 = .ok (.iload_n 1, 1) := by decide +kernel
theorem dX5_number_18 : decode cX5_number 18 = .ok (.iaload, 1) := by decide +kernel
theorem dX5_number_19 : decode cX5_number 19 = .ok (.goto 4, 3) := by decide +kernel
theorem dX5_number_22 : decode cX5_number 22 = .ok (.iconst 0, 1) := by decide +kernel
theorem dX5_number_23 : decode cX5_number 23 = .ok (.ireturn, 1) := by decide +kernel
theorem dX5_lay_0 : decode cX5_lay 0 = .ok (.iload_n 1, 1) := by decide +kernel
theorem dX5_lay_1 : decode cX5_lay 1 = .ok (.ifCond .lt 19, 3) := by decide +kernel
theorem dX5_lay_4 : decode cX5_lay 4 = .ok (.iload_n 1, 1) := by decide +kernel
theorem dX5_lay_5 : decode cX5_lay 5 = .ok (.aload_n 0, 1) := by decide +kernel
theorem dX5_lay_6 : decode cX5_lay 6 = .ok (.getfield 11, 3) := by decide +kernel
theorem dX5_lay_9 : decode cX5_lay 9 = .ok (.arraylength, 1) := by decide +kernel
theorem dX5_lay_10 : decode cX5_lay 10 = .ok (.if_icmp .ge 10, 3) := by decide +kernel
theorem dX5_lay_13 : decode cX5_lay 13 = .ok (.aload_n 0, 1) := by decide +kernel
theorem dX5_lay_14 : decode cX5_lay 14 = .ok (.getfield 11, 3) := by decide +kernel
theorem dX5_lay_17 : decode cX5_lay 17 = .ok (.iload_n 1, 1) := by decide +kernel
theorem dX5_lay_18 : decode cX5_lay 18 = .ok (.iload_n 2, 1) := by decide +kernel
theorem dX5_lay_19 : decode cX5_lay 19 = .ok (.iastore, 1) := by decide +kernel
theorem dX5_lay_20 : decode cX5_lay 20 = .ok (.return_, 1) := by decide +kernel
theorem dX5_raise_0 : decode cX5_raise 0 = .ok (.aload_n 0, 1) := by decide +kernel
theorem dX5_raise_1 : decode cX5_raise 1 = .ok (.iload_n 1, 1) := by decide +kernel
theorem dX5_raise_2 : decode cX5_raise 2 = .ok (.aload_n 0, 1) := by decide +kernel
theorem dX5_raise_3 : decode cX5_raise 3 = .ok (.iload_n 1, 1) := by decide +kernel
theorem dX5_raise_4 : decode cX5_raise 4 = .ok (.invokevirtual 22, 3) := by decide +kernel
theorem dX5_raise_7 : decode cX5_raise 7 = .ok (.iload_n 2, 1) := by decide +kernel
theorem dX5_raise_8 : decode cX5_raise 8 = .ok (.iadd, 1) := by decide +kernel
theorem dX5_raise_9 : decode cX5_raise 9 = .ok (.invokevirtual 15, 3) := by decide +kernel
theorem dX5_raise_12 : decode cX5_raise 12 = .ok (.return_, 1) := by decide +kernel
theorem dX5_copyFrom_0 : decode cX5_copyFrom 0 = .ok (.aload_n 1, 1) := by decide +kernel
theorem dX5_copyFrom_1 : decode cX5_copyFrom 1 = .ok (.getfield 11, 3) := by decide +kernel
theorem dX5_copyFrom_4 : decode cX5_copyFrom 4 = .ok (.iconst 0, 1) := by decide +kernel
theorem dX5_copyFrom_5 : decode cX5_copyFrom 5 = .ok (.aload_n 0, 1) := by decide +kernel
theorem dX5_copyFrom_6 : decode cX5_copyFrom 6 = .ok (.getfield 11, 3) := by decide +kernel
theorem dX5_copyFrom_9 : decode cX5_copyFrom 9 = .ok (.iconst 0, 1) := by decide +kernel
theorem dX5_copyFrom_10 : decode cX5_copyFrom 10 = .ok (.sipush 344, 3) := by decide +kernel
theorem dX5_copyFrom_13 : decode cX5_copyFrom 13 = .ok (.invokestatic 26, 3) := by decide +kernel
theorem dX5_copyFrom_16 : decode cX5_copyFrom 16 = .ok (.return_, 1) := by decide +kernel
theorem dX5_copyInto_0 : decode cX5_copyInto 0 = .ok (.iload_n 2, 1) := by decide +kernel
theorem dX5_copyInto_1 : decode cX5_copyInto 1 = .ok (.ifCond .lt 26, 3) := by decide +kernel
theorem dX5_copyInto_4 : decode cX5_copyInto 4 = .ok (.iload_n 2, 1) := by decide +kernel
theorem dX5_copyInto_5 : decode cX5_copyInto 5 = .ok (.aload_n 1, 1) := by decide +kernel
theorem dX5_copyInto_6 : decode cX5_copyInto 6 = .ok (.arraylength, 1) := by decide +kernel
theorem dX5_copyInto_7 : decode cX5_copyInto 7 = .ok (.sipush 344, 3) := by decide +kernel
theorem dX5_copyInto_10 : decode cX5_copyInto 10 = .ok (.isub, 1) := by decide +kernel
theorem dX5_copyInto_11 : decode cX5_copyInto 11 = .ok (.if_icmp .gt 16, 3) := by decide +kernel
theorem dX5_copyInto_14 : decode cX5_copyInto 14 = .ok (.aload_n 0, 1) := by decide +kernel
theorem dX5_copyInto_15 : decode cX5_copyInto 15 = .ok (.getfield 11, 3) := by decide +kernel
theorem dX5_copyInto_18 : decode cX5_copyInto 18 = .ok (.iconst 0, 1) := by decide +kernel
theorem dX5_copyInto_19 : decode cX5_copyInto 19 = .ok (.aload_n 1, 1) := by decide +kernel
theorem dX5_copyInto_20 : decode cX5_copyInto 20 = .ok (.iload_n 2, 1) := by decide +kernel
theorem dX5_copyInto_21 : decode cX5_copyInto 21 = .ok (.sipush 344, 3) := by decide +kernel
theorem dX5_copyInto_24 : decode cX5_copyInto 24 = .ok (.invokestatic 26, 3) := by decide +kernel
theorem dX5_copyInto_27 : decode cX5_copyInto 27 = .ok (.return_, 1) := by decide +kernel
theorem dX5_copyOutOf_0 : decode cX5_copyOutOf 0 = .ok (.iload_n 2, 1) := by decide +kernel
theorem dX5_copyOutOf_1 : decode cX5_copyOutOf 1 = .ok (.ifCond .lt 26, 3) := by decide +kernel
theorem dX5_copyOutOf_4 : decode cX5_copyOutOf 4 = .ok (.iload_n 2, 1) := by decide +kernel
theorem dX5_copyOutOf_5 : decode cX5_copyOutOf 5 = .ok (.aload_n 1, 1) := by decide +kernel
theorem dX5_copyOutOf_6 : decode cX5_copyOutOf 6 = .ok (.arraylength, 1) := by decide +kernel
theorem dX5_copyOutOf_7 : decode cX5_copyOutOf 7 = .ok (.sipush 344, 3) := by decide +kernel
theorem dX5_copyOutOf_10 : decode cX5_copyOutOf 10 = .ok (.isub, 1) := by decide +kernel
theorem dX5_copyOutOf_11 : decode cX5_copyOutOf 11 = .ok (.if_icmp .gt 16, 3) := by decide +kernel
theorem dX5_copyOutOf_14 : decode cX5_copyOutOf 14 = .ok (.aload_n 1, 1) := by decide +kernel
theorem dX5_copyOutOf_15 : decode cX5_copyOutOf 15 = .ok (.iload_n 2, 1) := by decide +kernel
theorem dX5_copyOutOf_16 : decode cX5_copyOutOf 16 = .ok (.aload_n 0, 1) := by decide +kernel
theorem dX5_copyOutOf_17 : decode cX5_copyOutOf 17 = .ok (.getfield 11, 3) := by decide +kernel
theorem dX5_copyOutOf_20 : decode cX5_copyOutOf 20 = .ok (.iconst 0, 1) := by decide +kernel
theorem dX5_copyOutOf_21 : decode cX5_copyOutOf 21 = .ok (.sipush 344, 3) := by decide +kernel
theorem dX5_copyOutOf_24 : decode cX5_copyOutOf 24 = .ok (.invokestatic 26, 3) := by decide +kernel
theorem dX5_copyOutOf_27 : decode cX5_copyOutOf 27 = .ok (.return_, 1) := by decide +kernel
theorem dX5_setting_0 : decode cX5_setting 0 = .ok (.aload_n 0, 1) := by decide +kernel
theorem dX5_setting_1 : decode cX5_setting 1 = .ok (.iconst 0, 1) := by decide +kernel
theorem dX5_setting_2 : decode cX5_setting 2 = .ok (.iload_n 1, 1) := by decide +kernel
theorem dX5_setting_3 : decode cX5_setting 3 = .ok (.iadd, 1) := by decide +kernel
theorem dX5_setting_4 : decode cX5_setting 4 = .ok (.invokevirtual 22, 3) := by decide +kernel
theorem dX5_setting_7 : decode cX5_setting 7 = .ok (.ireturn, 1) := by decide +kernel
theorem dX5_hasPattern_0 : decode cX5_hasPattern 0 = .ok (.aload_n 0, 1) := by decide +kernel
theorem dX5_hasPattern_1 : decode cX5_hasPattern 1 = .ok (.iconst 3, 1) := by decide +kernel
theorem dX5_hasPattern_2 : decode cX5_hasPattern 2 = .ok (.iload_n 1, 1) := by decide +kernel
theorem dX5_hasPattern_3 : decode cX5_hasPattern 3 = .ok (.iadd, 1) := by decide +kernel
theorem dX5_hasPattern_4 : decode cX5_hasPattern 4 = .ok (.invokevirtual 22, 3) := by decide +kernel
theorem dX5_hasPattern_7 : decode cX5_hasPattern 7 = .ok (.iconst (-1), 1) := by decide +kernel
theorem dX5_hasPattern_8 : decode cX5_hasPattern 8 = .ok (.if_icmp .eq 7, 3) := by decide +kernel
theorem dX5_hasPattern_11 : decode cX5_hasPattern 11 = .ok (.iconst 1, 1) := by decide +kernel
theorem dX5_hasPattern_12 : decode cX5_hasPattern 12 = .ok (.goto 4, 3) := by decide +kernel
theorem dX5_hasPattern_15 : decode cX5_hasPattern 15 = .ok (.iconst 0, 1) := by decide +kernel
theorem dX5_hasPattern_16 : decode cX5_hasPattern 16 = .ok (.ireturn, 1) := by decide +kernel
theorem dX5_dropPatterns_0 : decode cX5_dropPatterns 0 = .ok (.iconst 0, 1) := by decide +kernel
theorem dX5_dropPatterns_1 : decode cX5_dropPatterns 1 = .ok (.istore_n 1, 1) := by decide +kernel
theorem dX5_dropPatterns_2 : decode cX5_dropPatterns 2 = .ok (.iload_n 1, 1) := by decide +kernel
theorem dX5_dropPatterns_3 : decode cX5_dropPatterns 3 = .ok (.iconst 5, 1) := by decide +kernel
theorem dX5_dropPatterns_4 : decode cX5_dropPatterns 4 = .ok (.if_icmp .ge 17, 3) := by decide +kernel
theorem dX5_dropPatterns_7 : decode cX5_dropPatterns 7 = .ok (.aload_n 0, 1) := by decide +kernel
theorem dX5_dropPatterns_8 : decode cX5_dropPatterns 8 = .ok (.iconst 3, 1) := by decide +kernel
theorem dX5_dropPatterns_9 : decode cX5_dropPatterns 9 = .ok (.iload_n 1, 1) := by decide +kernel
theorem dX5_dropPatterns_10 : decode cX5_dropPatterns 10 = .ok (.iadd, 1) := by decide +kernel
theorem dX5_dropPatterns_11 : decode cX5_dropPatterns 11 = .ok (.iconst (-1), 1) := by decide +kernel
theorem dX5_dropPatterns_12 : decode cX5_dropPatterns 12 = .ok (.invokevirtual 15, 3) := by decide +kernel
theorem dX5_dropPatterns_15 : decode cX5_dropPatterns 15 = .ok (.iinc 1 1, 3) := by decide +kernel
theorem dX5_dropPatterns_18 : decode cX5_dropPatterns 18 = .ok (.goto (-16), 3) := by decide +kernel
theorem dX5_dropPatterns_21 : decode cX5_dropPatterns 21 = .ok (.return_, 1) := by decide +kernel
theorem dX5_funnel_0 : decode cX5_funnel 0 = .ok (.aload_n 0, 1) := by decide +kernel
theorem dX5_funnel_1 : decode cX5_funnel 1 = .ok (.bipush 8, 2) := by decide +kernel
theorem dX5_funnel_3 : decode cX5_funnel 3 = .ok (.iload_n 1, 1) := by decide +kernel
theorem dX5_funnel_4 : decode cX5_funnel 4 = .ok (.iadd, 1) := by decide +kernel
theorem dX5_funnel_5 : decode cX5_funnel 5 = .ok (.invokevirtual 22, 3) := by decide +kernel
theorem dX5_funnel_8 : decode cX5_funnel 8 = .ok (.ireturn, 1) := by decide +kernel
theorem dX5_heldBy_0 : decode cX5_heldBy 0 = .ok (.aload_n 0, 1) := by decide +kernel
theorem dX5_heldBy_1 : decode cX5_heldBy 1 = .ok (.bipush 15, 2) := by decide +kernel
theorem dX5_heldBy_3 : decode cX5_heldBy 3 = .ok (.iload_n 1, 1) := by decide +kernel
theorem dX5_heldBy_4 : decode cX5_heldBy 4 = .ok (.iadd, 1) := by decide +kernel
theorem dX5_heldBy_5 : decode cX5_heldBy 5 = .ok (.invokevirtual 22, 3) := by decide +kernel
theorem dX5_heldBy_8 : decode cX5_heldBy 8 = .ok (.ireturn, 1) := by decide +kernel
theorem dX5_holderOf_0 : decode cX5_holderOf 0 = .ok (.iconst 0, 1) := by decide +kernel
theorem dX5_holderOf_1 : decode cX5_holderOf 1 = .ok (.istore_n 2, 1) := by decide +kernel
theorem dX5_holderOf_2 : decode cX5_holderOf 2 = .ok (.iload_n 2, 1) := by decide +kernel
theorem dX5_holderOf_3 : decode cX5_holderOf 3 = .ok (.iconst 4, 1) := by decide +kernel
theorem dX5_holderOf_4 : decode cX5_holderOf 4 = .ok (.if_icmp .ge 20, 3) := by decide +kernel
theorem dX5_holderOf_7 : decode cX5_holderOf 7 = .ok (.aload_n 0, 1) := by decide +kernel
theorem dX5_holderOf_8 : decode cX5_holderOf 8 = .ok (.iload_n 2, 1) := by decide +kernel
theorem dX5_holderOf_9 : decode cX5_holderOf 9 = .ok (.invokevirtual 32, 3) := by decide +kernel
theorem dX5_holderOf_12 : decode cX5_holderOf 12 = .ok (.iload_n 1, 1) := by decide +kernel
theorem dX5_holderOf_13 : decode cX5_holderOf 13 = .ok (.if_icmp .ne 5, 3) := by decide +kernel
theorem dX5_holderOf_16 : decode cX5_holderOf 16 = .ok (.iload_n 2, 1) := by decide +kernel
theorem dX5_holderOf_17 : decode cX5_holderOf 17 = .ok (.ireturn, 1) := by decide +kernel
theorem dX5_holderOf_18 : decode cX5_holderOf 18 = .ok (.iinc 2 1, 3) := by decide +kernel
theorem dX5_holderOf_21 : decode cX5_holderOf 21 = .ok (.goto (-19), 3) := by decide +kernel
theorem dX5_holderOf_24 : decode cX5_holderOf 24 = .ok (.bipush (-6), 2) := by decide +kernel
theorem dX5_holderOf_26 : decode cX5_holderOf 26 = .ok (.ireturn, 1) := by decide +kernel
theorem dX5_isClosed_0 : decode cX5_isClosed 0 = .ok (.iload_n 1, 1) := by decide +kernel
theorem dX5_isClosed_1 : decode cX5_isClosed 1 = .ok (.aload_n 0, 1) := by decide +kernel
theorem dX5_isClosed_2 : decode cX5_isClosed 2 = .ok (.bipush 19, 2) := by decide +kernel
theorem dX5_isClosed_4 : decode cX5_isClosed 4 = .ok (.invokevirtual 22, 3) := by decide +kernel
theorem dX5_isClosed_7 : decode cX5_isClosed 7 = .ok (.if_icmp .ge 7, 3) := by decide +kernel
theorem dX5_isClosed_10 : decode cX5_isClosed 10 = .ok (.iconst 1, 1) := by decide +kernel
theorem dX5_isClosed_11 : decode cX5_isClosed 11 = .ok (.goto 4, 3) := by decide +kernel
theorem dX5_isClosed_14 : decode cX5_isClosed 14 = .ok (.iconst 0, 1) := by decide +kernel
theorem dX5_isClosed_15 : decode cX5_isClosed 15 = .ok (.ireturn, 1) := by decide +kernel
theorem dX5_isSwept_0 : decode cX5_isSwept 0 = .ok (.iconst 0, 1) := by decide +kernel
theorem dX5_isSwept_1 : decode cX5_isSwept 1 = .ok (.istore_n 2, 1) := by decide +kernel
theorem dX5_isSwept_2 : decode cX5_isSwept 2 = .ok (.iload_n 2, 1) := by decide +kernel
theorem dX5_isSwept_3 : decode cX5_isSwept 3 = .ok (.iconst 4, 1) := by decide +kernel
theorem dX5_isSwept_4 : decode cX5_isSwept 4 = .ok (.if_icmp .ge 29, 3) := by decide +kernel
theorem dX5_isSwept_7 : decode cX5_isSwept 7 = .ok (.iload_n 2, 1) := by decide +kernel
theorem dX5_isSwept_8 : decode cX5_isSwept 8 = .ok (.aload_n 0, 1) := by decide +kernel
theorem dX5_isSwept_9 : decode cX5_isSwept 9 = .ok (.bipush 20, 2) := by decide +kernel
theorem dX5_isSwept_11 : decode cX5_isSwept 11 = .ok (.invokevirtual 22, 3) := by decide +kernel
theorem dX5_isSwept_14 : decode cX5_isSwept 14 = .ok (.if_icmp .ge 19, 3) := by decide +kernel
theorem dX5_isSwept_17 : decode cX5_isSwept 17 = .ok (.iload_n 2, 1) := by decide +kernel
theorem dX5_isSwept_18 : decode cX5_isSwept 18 = .ok (.invokestatic 35, 3) := by decide +kernel
theorem dX5_isSwept_21 : decode cX5_isSwept 21 = .ok (.iload_n 1, 1) := by decide +kernel
theorem dX5_isSwept_22 : decode cX5_isSwept 22 = .ok (.if_icmp .ne 5, 3) := by decide +kernel
theorem dX5_isSwept_25 : decode cX5_isSwept 25 = .ok (.iconst 1, 1) := by decide +kernel
theorem dX5_isSwept_26 : decode cX5_isSwept 26 = .ok (.ireturn, 1) := by decide +kernel
theorem dX5_isSwept_27 : decode cX5_isSwept 27 = .ok (.iinc 2 1, 3) := by decide +kernel
theorem dX5_isSwept_30 : decode cX5_isSwept 30 = .ok (.goto (-28), 3) := by decide +kernel
theorem dX5_isSwept_33 : decode cX5_isSwept 33 = .ok (.iconst 0, 1) := by decide +kernel
theorem dX5_isSwept_34 : decode cX5_isSwept 34 = .ok (.ireturn, 1) := by decide +kernel
theorem dX5_grains_0 : decode cX5_grains 0 = .ok (.aload_n 0, 1) := by decide +kernel
theorem dX5_grains_1 : decode cX5_grains 1 = .ok (.bipush 24, 2) := by decide +kernel
theorem dX5_grains_3 : decode cX5_grains 3 = .ok (.iload_n 1, 1) := by decide +kernel
theorem dX5_grains_4 : decode cX5_grains 4 = .ok (.iconst 5, 1) := by decide +kernel
theorem dX5_grains_5 : decode cX5_grains 5 = .ok (.imul, 1) := by decide +kernel
theorem dX5_grains_6 : decode cX5_grains 6 = .ok (.iload_n 2, 1) := by decide +kernel
theorem dX5_grains_7 : decode cX5_grains 7 = .ok (.iadd, 1) := by decide +kernel
theorem dX5_grains_8 : decode cX5_grains 8 = .ok (.bipush 8, 2) := by decide +kernel
theorem dX5_grains_10 : decode cX5_grains 10 = .ok (.imul, 1) := by decide +kernel
theorem dX5_grains_11 : decode cX5_grains 11 = .ok (.iadd, 1) := by decide +kernel
theorem dX5_grains_12 : decode cX5_grains 12 = .ok (.iload_n 3, 1) := by decide +kernel
theorem dX5_grains_13 : decode cX5_grains 13 = .ok (.iadd, 1) := by decide +kernel
theorem dX5_grains_14 : decode cX5_grains 14 = .ok (.invokevirtual 22, 3) := by decide +kernel
theorem dX5_grains_17 : decode cX5_grains 17 = .ok (.ireturn, 1) := by decide +kernel
theorem dX5_colour_0 : decode cX5_colour 0 = .ok (.aload_n 0, 1) := by decide +kernel
theorem dX5_colour_1 : decode cX5_colour 1 = .ok (.sipush 184, 3) := by decide +kernel
theorem dX5_colour_4 : decode cX5_colour 4 = .ok (.iload_n 1, 1) := by decide +kernel
theorem dX5_colour_5 : decode cX5_colour 5 = .ok (.iconst 5, 1) := by decide +kernel
theorem dX5_colour_6 : decode cX5_colour 6 = .ok (.imul, 1) := by decide +kernel
theorem dX5_colour_7 : decode cX5_colour 7 = .ok (.iload_n 2, 1) := by decide +kernel
theorem dX5_colour_8 : decode cX5_colour 8 = .ok (.iadd, 1) := by decide +kernel
theorem dX5_colour_9 : decode cX5_colour 9 = .ok (.bipush 8, 2) := by decide +kernel
theorem dX5_colour_11 : decode cX5_colour 11 = .ok (.imul, 1) := by decide +kernel
theorem dX5_colour_12 : decode cX5_colour 12 = .ok (.iadd, 1) := by decide +kernel
theorem dX5_colour_13 : decode cX5_colour 13 = .ok (.iload_n 3, 1) := by decide +kernel
theorem dX5_colour_14 : decode cX5_colour 14 = .ok (.iadd, 1) := by decide +kernel
theorem dX5_colour_15 : decode cX5_colour 15 = .ok (.invokevirtual 22, 3) := by decide +kernel
theorem dX5_colour_18 : decode cX5_colour 18 = .ok (.ireturn, 1) := by decide +kernel
theorem dX5_heap_0 : decode cX5_heap 0 = .ok (.iload_n 1, 1) := by decide +kernel
theorem dX5_heap_1 : decode cX5_heap 1 = .ok (.iconst 5, 1) := by decide +kernel
theorem dX5_heap_2 : decode cX5_heap 2 = .ok (.imul, 1) := by decide +kernel
theorem dX5_heap_3 : decode cX5_heap 3 = .ok (.iload_n 2, 1) := by decide +kernel
theorem dX5_heap_4 : decode cX5_heap 4 = .ok (.iadd, 1) := by decide +kernel
theorem dX5_heap_5 : decode cX5_heap 5 = .ok (.bipush 8, 2) := by decide +kernel
theorem dX5_heap_7 : decode cX5_heap 7 = .ok (.imul, 1) := by decide +kernel
theorem dX5_heap_8 : decode cX5_heap 8 = .ok (.iload_n 3, 1) := by decide +kernel
theorem dX5_heap_9 : decode cX5_heap 9 = .ok (.iadd, 1) := by decide +kernel
theorem dX5_heap_10 : decode cX5_heap 10 = .ok (.istore 6, 2) := by decide +kernel
theorem dX5_heap_12 : decode cX5_heap 12 = .ok (.aload_n 0, 1) := by decide +kernel
theorem dX5_heap_13 : decode cX5_heap 13 = .ok (.bipush 24, 2) := by decide +kernel
theorem dX5_heap_15 : decode cX5_heap 15 = .ok (.iload 6, 2) := by decide +kernel
theorem dX5_heap_17 : decode cX5_heap 17 = .ok (.iadd, 1) := by decide +kernel
theorem dX5_heap_18 : decode cX5_heap 18 = .ok (.iload 5, 2) := by decide +kernel
theorem dX5_heap_20 : decode cX5_heap 20 = .ok (.invokevirtual 15, 3) := by decide +kernel
theorem dX5_heap_23 : decode cX5_heap 23 = .ok (.aload_n 0, 1) := by decide +kernel
theorem dX5_heap_24 : decode cX5_heap 24 = .ok (.sipush 184, 3) := by decide +kernel
theorem dX5_heap_27 : decode cX5_heap 27 = .ok (.iload 6, 2) := by decide +kernel
theorem dX5_heap_29 : decode cX5_heap 29 = .ok (.iadd, 1) := by decide +kernel
theorem dX5_heap_30 : decode cX5_heap 30 = .ok (.iload 5, 2) := by decide +kernel
theorem dX5_heap_32 : decode cX5_heap 32 = .ok (.ifCond .ne 7, 3) := by decide +kernel
theorem dX5_heap_35 : decode cX5_heap 35 = .ok (.iconst 0, 1) := by decide +kernel
theorem dX5_heap_36 : decode cX5_heap 36 = .ok (.goto 5, 3) := by decide +kernel
theorem dX5_heap_39 : decode cX5_heap 39 = .ok (.iload 4, 2) := by decide +kernel
theorem dX5_heap_41 : decode cX5_heap 41 = .ok (.invokevirtual 15, 3) := by decide +kernel
theorem dX5_heap_44 : decode cX5_heap 44 = .ok (.return_, 1) := by decide +kernel
theorem dX5_patternPlace_0 : decode cX5_patternPlace 0 = .ok (.aload_n 0, 1) := by decide +kernel
theorem dX5_patternPlace_1 : decode cX5_patternPlace 1 = .ok (.iconst 2, 1) := by decide +kernel
theorem dX5_patternPlace_2 : decode cX5_patternPlace 2 = .ok (.invokevirtual 22, 3) := by decide +kernel
theorem dX5_patternPlace_5 : decode cX5_patternPlace 5 = .ok (.iconst 1, 1) := by decide +kernel
theorem dX5_patternPlace_6 : decode cX5_patternPlace 6 = .ok (.if_icmp .ne 14, 3) := by decide +kernel
theorem dX5_patternPlace_9 : decode cX5_patternPlace 9 = .ok (.iload_n 1, 1) := by decide +kernel
theorem dX5_patternPlace_10 : decode cX5_patternPlace 10 = .ok (.iconst 2, 1) := by decide +kernel
theorem dX5_patternPlace_11 : decode cX5_patternPlace 11 = .ok (.irem, 1) := by decide +kernel
theorem dX5_patternPlace_12 : decode cX5_patternPlace 12 = .ok (.iconst 1, 1) := by decide +kernel
theorem dX5_patternPlace_13 : decode cX5_patternPlace 13 = .ok (.if_icmp .ne 7, 3) := by decide +kernel
theorem dX5_patternPlace_16 : decode cX5_patternPlace 16 = .ok (.iconst 1, 1) := by decide +kernel
theorem dX5_patternPlace_17 : decode cX5_patternPlace 17 = .ok (.goto 4, 3) := by decide +kernel
theorem dX5_patternPlace_20 : decode cX5_patternPlace 20 = .ok (.iconst 0, 1) := by decide +kernel
theorem dX5_patternPlace_21 : decode cX5_patternPlace 21 = .ok (.istore_n 3, 1) := by decide +kernel
theorem dX5_patternPlace_22 : decode cX5_patternPlace 22 = .ok (.iload_n 3, 1) := by decide +kernel
theorem dX5_patternPlace_23 : decode cX5_patternPlace 23 = .ok (.ifCond .eq 10, 3) := by decide +kernel
theorem dX5_patternPlace_26 : decode cX5_patternPlace 26 = .ok (.bipush 7, 2) := by decide +kernel
theorem dX5_patternPlace_28 : decode cX5_patternPlace 28 = .ok (.iload_n 2, 1) := by decide +kernel
theorem dX5_patternPlace_29 : decode cX5_patternPlace 29 = .ok (.isub, 1) := by decide +kernel
theorem dX5_patternPlace_30 : decode cX5_patternPlace 30 = .ok (.goto 4, 3) := by decide +kernel
theorem dX5_patternPlace_33 : decode cX5_patternPlace 33 = .ok (.iload_n 2, 1) := by decide +kernel
theorem dX5_patternPlace_34 : decode cX5_patternPlace 34 = .ok (.ireturn, 1) := by decide +kernel
theorem dX5_isMirrored_0 : decode cX5_isMirrored 0 = .ok (.aload_n 0, 1) := by decide +kernel
theorem dX5_isMirrored_1 : decode cX5_isMirrored 1 = .ok (.iload_n 1, 1) := by decide +kernel
theorem dX5_isMirrored_2 : decode cX5_isMirrored 2 = .ok (.iconst 0, 1) := by decide +kernel
theorem dX5_isMirrored_3 : decode cX5_isMirrored 3 = .ok (.invokevirtual 40, 3) := by decide +kernel
theorem dX5_isMirrored_6 : decode cX5_isMirrored 6 = .ok (.ifCond .eq 7, 3) := by decide +kernel
theorem dX5_isMirrored_9 : decode cX5_isMirrored 9 = .ok (.iconst 1, 1) := by decide +kernel
theorem dX5_isMirrored_10 : decode cX5_isMirrored 10 = .ok (.goto 4, 3) := by decide +kernel
theorem dX5_isMirrored_13 : decode cX5_isMirrored 13 = .ok (.iconst 0, 1) := by decide +kernel
theorem dX5_isMirrored_14 : decode cX5_isMirrored 14 = .ok (.ireturn, 1) := by decide +kernel
theorem dX5_wanted_0 : decode cX5_wanted 0 = .ok (.aload_n 0, 1) := by decide +kernel
theorem dX5_wanted_1 : decode cX5_wanted 1 = .ok (.iconst 3, 1) := by decide +kernel
theorem dX5_wanted_2 : decode cX5_wanted 2 = .ok (.iload_n 2, 1) := by decide +kernel
theorem dX5_wanted_3 : decode cX5_wanted 3 = .ok (.iadd, 1) := by decide +kernel
theorem dX5_wanted_4 : decode cX5_wanted 4 = .ok (.invokevirtual 22, 3) := by decide +kernel
theorem dX5_wanted_7 : decode cX5_wanted 7 = .ok (.istore 4, 2) := by decide +kernel
theorem dX5_wanted_9 : decode cX5_wanted 9 = .ok (.iload 4, 2) := by decide +kernel
theorem dX5_wanted_11 : decode cX5_wanted 11 = .ok (.iconst (-1), 1) := by decide +kernel
theorem dX5_wanted_12 : decode cX5_wanted 12 = .ok (.if_icmp .ne 6, 3) := by decide +kernel
theorem dX5_wanted_15 : decode cX5_wanted 15 = .ok (.bipush (-6), 2) := by decide +kernel
theorem dX5_wanted_17 : decode cX5_wanted 17 = .ok (.ireturn, 1) := by decide +kernel
theorem dX5_wanted_18 : decode cX5_wanted 18 = .ok (.iload 4, 2) := by decide +kernel
theorem dX5_wanted_20 : decode cX5_wanted 20 = .ok (.iconst 3, 1) := by decide +kernel
theorem dX5_wanted_21 : decode cX5_wanted 21 = .ok (.aload_n 0, 1) := by decide +kernel
theorem dX5_wanted_22 : decode cX5_wanted 22 = .ok (.iload_n 1, 1) := by decide +kernel
theorem dX5_wanted_23 : decode cX5_wanted 23 = .ok (.iload_n 3, 1) := by decide +kernel
theorem dX5_wanted_24 : decode cX5_wanted 24 = .ok (.invokevirtual 40, 3) := by decide +kernel
theorem dX5_wanted_27 : decode cX5_wanted 27 = .ok (.imul, 1) := by decide +kernel
theorem dX5_wanted_28 : decode cX5_wanted 28 = .ok (.ishr, 1) := by decide +kernel
theorem dX5_wanted_29 : decode cX5_wanted 29 = .ok (.bipush 7, 2) := by decide +kernel
theorem dX5_wanted_31 : decode cX5_wanted 31 = .ok (.iand, 1) := by decide +kernel
theorem dX5_wanted_32 : decode cX5_wanted 32 = .ok (.ireturn, 1) := by decide +kernel
theorem dX5_isRight_0 : decode cX5_isRight 0 = .ok (.aload_n 0, 1) := by decide +kernel
theorem dX5_isRight_1 : decode cX5_isRight 1 = .ok (.iload_n 1, 1) := by decide +kernel
theorem dX5_isRight_2 : decode cX5_isRight 2 = .ok (.iload_n 2, 1) := by decide +kernel
theorem dX5_isRight_3 : decode cX5_isRight 3 = .ok (.iload_n 3, 1) := by decide +kernel
theorem dX5_isRight_4 : decode cX5_isRight 4 = .ok (.invokevirtual 44, 3) := by decide +kernel
theorem dX5_isRight_7 : decode cX5_isRight 7 = .ok (.istore 4, 2) := by decide +kernel
theorem dX5_isRight_9 : decode cX5_isRight 9 = .ok (.iload 4, 2) := by decide +kernel
theorem dX5_isRight_11 : decode cX5_isRight 11 = .ok (.bipush (-6), 2) := by decide +kernel
theorem dX5_isRight_13 : decode cX5_isRight 13 = .ok (.if_icmp .ne 5, 3) := by decide +kernel
theorem dX5_isRight_16 : decode cX5_isRight 16 = .ok (.iconst 0, 1) := by decide +kernel
theorem dX5_isRight_17 : decode cX5_isRight 17 = .ok (.ireturn, 1) := by decide +kernel
theorem dX5_isRight_18 : decode cX5_isRight 18 = .ok (.iload 4, 2) := by decide +kernel
theorem dX5_isRight_20 : decode cX5_isRight 20 = .ok (.ifCond .ne 19, 3) := by decide +kernel
theorem dX5_isRight_23 : decode cX5_isRight 23 = .ok (.aload_n 0, 1) := by decide +kernel
theorem dX5_isRight_24 : decode cX5_isRight 24 = .ok (.iload_n 1, 1) := by decide +kernel
theorem dX5_isRight_25 : decode cX5_isRight 25 = .ok (.iload_n 2, 1) := by decide +kernel
theorem dX5_isRight_26 : decode cX5_isRight 26 = .ok (.iload_n 3, 1) := by decide +kernel
theorem dX5_isRight_27 : decode cX5_isRight 27 = .ok (.invokevirtual 48, 3) := by decide +kernel
theorem dX5_isRight_30 : decode cX5_isRight 30 = .ok (.ifCond .ne 7, 3) := by decide +kernel
theorem dX5_isRight_33 : decode cX5_isRight 33 = .ok (.iconst 1, 1) := by decide +kernel
theorem dX5_isRight_34 : decode cX5_isRight 34 = .ok (.goto 4, 3) := by decide +kernel
theorem dX5_isRight_37 : decode cX5_isRight 37 = .ok (.iconst 0, 1) := by decide +kernel
theorem dX5_isRight_38 : decode cX5_isRight 38 = .ok (.ireturn, 1) := by decide +kernel
theorem dX5_isRight_39 : decode cX5_isRight 39 = .ok (.aload_n 0, 1) := by decide +kernel
theorem dX5_isRight_40 : decode cX5_isRight 40 = .ok (.iload_n 1, 1) := by decide +kernel
theorem dX5_isRight_41 : decode cX5_isRight 41 = .ok (.iload_n 2, 1) := by decide +kernel
theorem dX5_isRight_42 : decode cX5_isRight 42 = .ok (.iload_n 3, 1) := by decide +kernel
theorem dX5_isRight_43 : decode cX5_isRight 43 = .ok (.invokevirtual 51, 3) := by decide +kernel
theorem dX5_isRight_46 : decode cX5_isRight 46 = .ok (.iload 4, 2) := by decide +kernel
theorem dX5_isRight_48 : decode cX5_isRight 48 = .ok (.if_icmp .ne 22, 3) := by decide +kernel
theorem dX5_isRight_51 : decode cX5_isRight 51 = .ok (.aload_n 0, 1) := by decide +kernel
theorem dX5_isRight_52 : decode cX5_isRight 52 = .ok (.iload_n 1, 1) := by decide +kernel
theorem dX5_isRight_53 : decode cX5_isRight 53 = .ok (.iload_n 2, 1) := by decide +kernel
theorem dX5_isRight_54 : decode cX5_isRight 54 = .ok (.iload_n 3, 1) := by decide +kernel
theorem dX5_isRight_55 : decode cX5_isRight 55 = .ok (.invokevirtual 48, 3) := by decide +kernel
theorem dX5_isRight_58 : decode cX5_isRight 58 = .ok (.aload_n 0, 1) := by decide +kernel
theorem dX5_isRight_59 : decode cX5_isRight 59 = .ok (.iconst 0, 1) := by decide +kernel
theorem dX5_isRight_60 : decode cX5_isRight 60 = .ok (.invokevirtual 54, 3) := by decide +kernel
theorem dX5_isRight_63 : decode cX5_isRight 63 = .ok (.if_icmp .lt 7, 3) := by decide +kernel
theorem dX5_isRight_66 : decode cX5_isRight 66 = .ok (.iconst 1, 1) := by decide +kernel
theorem dX5_isRight_67 : decode cX5_isRight 67 = .ok (.goto 4, 3) := by decide +kernel
theorem dX5_isRight_70 : decode cX5_isRight 70 = .ok (.iconst 0, 1) := by decide +kernel
theorem dX5_isRight_71 : decode cX5_isRight 71 = .ok (.ireturn, 1) := by decide +kernel
theorem dX5_missing_0 : decode cX5_missing 0 = .ok (.aload_n 0, 1) := by decide +kernel
theorem dX5_missing_1 : decode cX5_missing 1 = .ok (.iload_n 1, 1) := by decide +kernel
theorem dX5_missing_2 : decode cX5_missing 2 = .ok (.iload_n 2, 1) := by decide +kernel
theorem dX5_missing_3 : decode cX5_missing 3 = .ok (.iload_n 3, 1) := by decide +kernel
theorem dX5_missing_4 : decode cX5_missing 4 = .ok (.invokevirtual 44, 3) := by decide +kernel
theorem dX5_missing_7 : decode cX5_missing 7 = .ok (.istore 4, 2) := by decide +kernel
theorem dX5_missing_9 : decode cX5_missing 9 = .ok (.iload 4, 2) := by decide +kernel
theorem dX5_missing_11 : decode cX5_missing 11 = .ok (.invokestatic 57, 3) := by decide +kernel
theorem dX5_missing_14 : decode cX5_missing 14 = .ok (.ifCond .ne 5, 3) := by decide +kernel
theorem dX5_missing_17 : decode cX5_missing 17 = .ok (.iconst 0, 1) := by decide +kernel
theorem dX5_missing_18 : decode cX5_missing 18 = .ok (.ireturn, 1) := by decide +kernel
theorem dX5_missing_19 : decode cX5_missing 19 = .ok (.aload_n 0, 1) := by decide +kernel
theorem dX5_missing_20 : decode cX5_missing 20 = .ok (.iload_n 1, 1) := by decide +kernel
theorem dX5_missing_21 : decode cX5_missing 21 = .ok (.iload_n 2, 1) := by decide +kernel
theorem dX5_missing_22 : decode cX5_missing 22 = .ok (.iload_n 3, 1) := by decide +kernel
theorem dX5_missing_23 : decode cX5_missing 23 = .ok (.invokevirtual 51, 3) := by decide +kernel
theorem dX5_missing_26 : decode cX5_missing 26 = .ok (.iload 4, 2) := by decide +kernel
theorem dX5_missing_28 : decode cX5_missing 28 = .ok (.if_icmp .ne 13, 3) := by decide +kernel
theorem dX5_missing_31 : decode cX5_missing 31 = .ok (.aload_n 0, 1) := by decide +kernel
theorem dX5_missing_32 : decode cX5_missing 32 = .ok (.iload_n 1, 1) := by decide +kernel
theorem dX5_missing_33 : decode cX5_missing 33 = .ok (.iload_n 2, 1) := by decide +kernel
theorem dX5_missing_34 : decode cX5_missing 34 = .ok (.iload_n 3, 1) := by decide +kernel
theorem dX5_missing_35 : decode cX5_missing 35 = .ok (.invokevirtual 48, 3) := by decide +kernel
theorem dX5_missing_38 : decode cX5_missing 38 = .ok (.goto 4, 3) := by decide +kernel
theorem dX5_missing_41 : decode cX5_missing 41 = .ok (.iconst 0, 1) := by decide +kernel
theorem dX5_missing_42 : decode cX5_missing 42 = .ok (.istore 5, 2) := by decide +kernel
theorem dX5_missing_44 : decode cX5_missing 44 = .ok (.iconst 0, 1) := by decide +kernel
theorem dX5_missing_45 : decode cX5_missing 45 = .ok (.aload_n 0, 1) := by decide +kernel
theorem dX5_missing_46 : decode cX5_missing 46 = .ok (.iconst 0, 1) := by decide +kernel
theorem dX5_missing_47 : decode cX5_missing 47 = .ok (.invokevirtual 54, 3) := by decide +kernel
theorem dX5_missing_50 : decode cX5_missing 50 = .ok (.iload 5, 2) := by decide +kernel
theorem dX5_missing_52 : decode cX5_missing 52 = .ok (.isub, 1) := by decide +kernel
theorem dX5_missing_53 : decode cX5_missing 53 = .ok (.invokestatic 61, 3) := by decide +kernel
theorem dX5_missing_56 : decode cX5_missing 56 = .ok (.ireturn, 1) := by decide +kernel
theorem dX6_tally_0 : decode cX6_tally 0 = .ok (.iconst 0, 1) := by decide +kernel
theorem dX6_tally_1 : decode cX6_tally 1 = .ok (.istore 5, 2) := by decide +kernel
theorem dX6_tally_3 : decode cX6_tally 3 = .ok (.iconst 0, 1) := by decide +kernel
theorem dX6_tally_4 : decode cX6_tally 4 = .ok (.istore 6, 2) := by decide +kernel
theorem dX6_tally_6 : decode cX6_tally 6 = .ok (.iload 6, 2) := by decide +kernel
theorem dX6_tally_8 : decode cX6_tally 8 = .ok (.iconst 5, 1) := by decide +kernel
theorem dX6_tally_9 : decode cX6_tally 9 = .ok (.if_icmp .ge 82, 3) := by decide +kernel
theorem dX6_tally_12 : decode cX6_tally 12 = .ok (.iload 4, 2) := by decide +kernel
theorem dX6_tally_14 : decode cX6_tally 14 = .ok (.iload 6, 2) := by decide +kernel
theorem dX6_tally_16 : decode cX6_tally 16 = .ok (.invokestatic 9, 3) := by decide +kernel
theorem dX6_tally_19 : decode cX6_tally 19 = .ok (.ifCond .ne 6, 3) := by decide +kernel
theorem dX6_tally_22 : decode cX6_tally 22 = .ok (.goto 63, 3) := by decide +kernel
theorem dX6_tally_25 : decode cX6_tally 25 = .ok (.iconst 0, 1) := by decide +kernel
theorem dX6_tally_26 : decode cX6_tally 26 = .ok (.istore 7, 2) := by decide +kernel
theorem dX6_tally_28 : decode cX6_tally 28 = .ok (.iload 7, 2) := by decide +kernel
theorem dX6_tally_30 : decode cX6_tally 30 = .ok (.iconst 4, 1) := by decide +kernel
theorem dX6_tally_31 : decode cX6_tally 31 = .ok (.if_icmp .ge 54, 3) := by decide +kernel
theorem dX6_tally_34 : decode cX6_tally 34 = .ok (.iload_n 3, 1) := by decide +kernel
theorem dX6_tally_35 : decode cX6_tally 35 = .ok (.iload 7, 2) := by decide +kernel
theorem dX6_tally_37 : decode cX6_tally 37 = .ok (.invokestatic 9, 3) := by decide +kernel
theorem dX6_tally_40 : decode cX6_tally 40 = .ok (.ifCond .ne 6, 3) := by decide +kernel
theorem dX6_tally_43 : decode cX6_tally 43 = .ok (.goto 36, 3) := by decide +kernel
theorem dX6_tally_46 : decode cX6_tally 46 = .ok (.iconst 0, 1) := by decide +kernel
theorem dX6_tally_47 : decode cX6_tally 47 = .ok (.istore 8, 2) := by decide +kernel
theorem dX6_tally_49 : decode cX6_tally 49 = .ok (.iload 8, 2) := by decide +kernel
theorem dX6_tally_51 : decode cX6_tally 51 = .ok (.bipush 8, 2) := by decide +kernel
theorem dX6_tally_53 : decode cX6_tally 53 = .ok (.if_icmp .ge 26, 3) := by decide +kernel
theorem dX6_tally_56 : decode cX6_tally 56 = .ok (.iload 5, 2) := by decide +kernel
theorem dX6_tally_58 : decode cX6_tally 58 = .ok (.aload_n 0, 1) := by decide +kernel
theorem dX6_tally_59 : decode cX6_tally 59 = .ok (.iload_n 1, 1) := by decide +kernel
theorem dX6_tally_60 : decode cX6_tally 60 = .ok (.iload_n 2, 1) := by decide +kernel
theorem dX6_tally_61 : decode cX6_tally 61 = .ok (.iload 7, 2) := by decide +kernel
theorem dX6_tally_63 : decode cX6_tally 63 = .ok (.iload 6, 2) := by decide +kernel
theorem dX6_tally_65 : decode cX6_tally 65 = .ok (.iload 8, 2) := by decide +kernel
theorem dX6_tally_67 : decode cX6_tally 67 = .ok (.invokestatic 15, 3) := by decide +kernel
theorem dX6_tally_70 : decode cX6_tally 70 = .ok (.iadd, 1) := by decide +kernel
theorem dX6_tally_71 : decode cX6_tally 71 = .ok (.istore 5, 2) := by decide +kernel
theorem dX6_tally_73 : decode cX6_tally 73 = .ok (.iinc 8 1, 3) := by decide +kernel
theorem dX6_tally_76 : decode cX6_tally 76 = .ok (.goto (-27), 3) := by decide +kernel
theorem dX6_tally_79 : decode cX6_tally 79 = .ok (.iinc 7 1, 3) := by decide +kernel
theorem dX6_tally_82 : decode cX6_tally 82 = .ok (.goto (-54), 3) := by decide +kernel
theorem dX6_tally_85 : decode cX6_tally 85 = .ok (.iinc 6 1, 3) := by decide +kernel
theorem dX6_tally_88 : decode cX6_tally 88 = .ok (.goto (-82), 3) := by decide +kernel
theorem dX6_tally_91 : decode cX6_tally 91 = .ok (.iload 5, 2) := by decide +kernel
theorem dX6_tally_93 : decode cX6_tally 93 = .ok (.ireturn, 1) := by decide +kernel
theorem dX6_matches_0 : decode cX6_matches 0 = .ok (.iload_n 0, 1) := by decide +kernel
theorem dX6_matches_1 : decode cX6_matches 1 = .ok (.iconst (-1), 1) := by decide +kernel
theorem dX6_matches_2 : decode cX6_matches 2 = .ok (.if_icmp .eq 8, 3) := by decide +kernel
theorem dX6_matches_5 : decode cX6_matches 5 = .ok (.iload_n 0, 1) := by decide +kernel
theorem dX6_matches_6 : decode cX6_matches 6 = .ok (.iload_n 1, 1) := by decide +kernel
theorem dX6_matches_7 : decode cX6_matches 7 = .ok (.if_icmp .ne 7, 3) := by decide +kernel
theorem dX6_matches_10 : decode cX6_matches 10 = .ok (.iconst 1, 1) := by decide +kernel
theorem dX6_matches_11 : decode cX6_matches 11 = .ok (.goto 4, 3) := by decide +kernel
theorem dX6_matches_14 : decode cX6_matches 14 = .ok (.iconst 0, 1) := by decide +kernel
theorem dX6_matches_15 : decode cX6_matches 15 = .ok (.ireturn, 1) := by decide +kernel
theorem dX6_measured_0 : decode cX6_measured 0 = .ok (.aload_n 0, 1) := by decide +kernel
theorem dX6_measured_1 : decode cX6_measured 1 = .ok (.iload_n 3, 1) := by decide +kernel
theorem dX6_measured_2 : decode cX6_measured 2 = .ok (.iload 4, 2) := by decide +kernel
theorem dX6_measured_4 : decode cX6_measured 4 = .ok (.iload 5, 2) := by decide +kernel
theorem dX6_measured_6 : decode cX6_measured 6 = .ok (.invokevirtual 19, 3) := by decide +kernel
theorem dX6_measured_9 : decode cX6_measured 9 = .ok (.istore 6, 2) := by decide +kernel
theorem dX6_measured_11 : decode cX6_measured 11 = .ok (.aload_n 0, 1) := by decide +kernel
theorem dX6_measured_12 : decode cX6_measured 12 = .ok (.iload_n 3, 1) := by decide +kernel
theorem dX6_measured_13 : decode cX6_measured 13 = .ok (.iload 4, 2) := by decide +kernel
theorem dX6_measured_15 : decode cX6_measured 15 = .ok (.iload 5, 2) := by decide +kernel
theorem dX6_measured_17 : decode cX6_measured 17 = .ok (.invokevirtual 25, 3) := by decide +kernel
theorem dX6_measured_20 : decode cX6_measured 20 = .ok (.istore 7, 2) := by decide +kernel
theorem dX6_measured_22 : decode cX6_measured 22 = .ok (.aload_n 0, 1) := by decide +kernel
theorem dX6_measured_23 : decode cX6_measured 23 = .ok (.iload_n 3, 1) := by decide +kernel
theorem dX6_measured_24 : decode cX6_measured 24 = .ok (.iload 4, 2) := by decide +kernel
theorem dX6_measured_26 : decode cX6_measured 26 = .ok (.iload 5, 2) := by decide +kernel
theorem dX6_measured_28 : decode cX6_measured 28 = .ok (.invokevirtual 28, 3) := by decide +kernel
theorem dX6_measured_31 : decode cX6_measured 31 = .ok (.istore 8, 2) := by decide +kernel
theorem dX6_measured_33 : decode cX6_measured 33 = .ok (.iload_n 1, 1) := by decide +kernel
theorem dX6_measured_34 : decode cX6_measured 34 = .ok (.tableswitch 140 0 5 #[38, 61, 67, 81, 102, 117], 38) := by decide +kernel
theorem dX6_measured_72 : decode cX6_measured 72 = .ok (.iload_n 2, 1) := by decide +kernel
theorem dX6_measured_73 : decode cX6_measured 73 = .ok (.iload 6, 2) := by decide +kernel
theorem dX6_measured_75 : decode cX6_measured 75 = .ok (.invokestatic 9, 3) := by decide +kernel
theorem dX6_measured_78 : decode cX6_measured 78 = .ok (.ifCond .eq 15, 3) := by decide +kernel
theorem dX6_measured_81 : decode cX6_measured 81 = .ok (.aload_n 0, 1) := by decide +kernel
theorem dX6_measured_82 : decode cX6_measured 82 = .ok (.iload_n 3, 1) := by decide +kernel
theorem dX6_measured_83 : decode cX6_measured 83 = .ok (.iload 4, 2) := by decide +kernel
theorem dX6_measured_85 : decode cX6_measured 85 = .ok (.iload 5, 2) := by decide +kernel
theorem dX6_measured_87 : decode cX6_measured 87 = .ok (.invokevirtual 32, 3) := by decide +kernel
theorem dX6_measured_90 : decode cX6_measured 90 = .ok (.goto 4, 3) := by decide +kernel
theorem dX6_measured_93 : decode cX6_measured 93 = .ok (.iconst 0, 1) := by decide +kernel
theorem dX6_measured_94 : decode cX6_measured 94 = .ok (.ireturn, 1) := by decide +kernel
theorem dX6_measured_95 : decode cX6_measured 95 = .ok (.iload 8, 2) := by decide +kernel
theorem dX6_measured_97 : decode cX6_measured 97 = .ok (.invokestatic 35, 3) := by decide +kernel
theorem dX6_measured_100 : decode cX6_measured 100 = .ok (.ireturn, 1) := by decide +kernel
theorem dX6_measured_101 : decode cX6_measured 101 = .ok (.iload 8, 2) := by decide +kernel
theorem dX6_measured_103 : decode cX6_measured 103 = .ok (.ifCond .ne 7, 3) := by decide +kernel
theorem dX6_measured_106 : decode cX6_measured 106 = .ok (.iconst 1, 1) := by decide +kernel
theorem dX6_measured_107 : decode cX6_measured 107 = .ok (.goto 4, 3) := by decide +kernel
theorem dX6_measured_110 : decode cX6_measured 110 = .ok (.iconst 0, 1) := by decide +kernel
theorem dX6_measured_111 : decode cX6_measured 111 = .ok (.invokestatic 35, 3) := by decide +kernel
theorem dX6_measured_114 : decode cX6_measured 114 = .ok (.ireturn, 1) := by decide +kernel
theorem dX6_measured_115 : decode cX6_measured 115 = .ok (.iload 7, 2) := by decide +kernel
theorem dX6_measured_117 : decode cX6_measured 117 = .ok (.bipush (-6), 2) := by decide +kernel
theorem dX6_measured_119 : decode cX6_measured 119 = .ok (.if_icmp .eq 12, 3) := by decide +kernel
theorem dX6_measured_122 : decode cX6_measured 122 = .ok (.iload 8, 2) := by decide +kernel
theorem dX6_measured_124 : decode cX6_measured 124 = .ok (.ifCond .ne 7, 3) := by decide +kernel
theorem dX6_measured_127 : decode cX6_measured 127 = .ok (.iconst 1, 1) := by decide +kernel
theorem dX6_measured_128 : decode cX6_measured 128 = .ok (.goto 4, 3) := by decide +kernel
theorem dX6_measured_131 : decode cX6_measured 131 = .ok (.iconst 0, 1) := by decide +kernel
theorem dX6_measured_132 : decode cX6_measured 132 = .ok (.invokestatic 35, 3) := by decide +kernel
theorem dX6_measured_135 : decode cX6_measured 135 = .ok (.ireturn, 1) := by decide +kernel
theorem dX6_measured_136 : decode cX6_measured 136 = .ok (.iload 7, 2) := by decide +kernel
theorem dX6_measured_138 : decode cX6_measured 138 = .ok (.iload_n 2, 1) := by decide +kernel
theorem dX6_measured_139 : decode cX6_measured 139 = .ok (.if_icmp .ne 7, 3) := by decide +kernel
theorem dX6_measured_142 : decode cX6_measured 142 = .ok (.iconst 1, 1) := by decide +kernel
theorem dX6_measured_143 : decode cX6_measured 143 = .ok (.goto 4, 3) := by decide +kernel
theorem dX6_measured_146 : decode cX6_measured 146 = .ok (.iconst 0, 1) := by decide +kernel
theorem dX6_measured_147 : decode cX6_measured 147 = .ok (.invokestatic 35, 3) := by decide +kernel
theorem dX6_measured_150 : decode cX6_measured 150 = .ok (.ireturn, 1) := by decide +kernel
theorem dX6_measured_151 : decode cX6_measured 151 = .ok (.iload_n 2, 1) := by decide +kernel
theorem dX6_measured_152 : decode cX6_measured 152 = .ok (.iload 7, 2) := by decide +kernel
theorem dX6_measured_154 : decode cX6_measured 154 = .ok (.invokestatic 9, 3) := by decide +kernel
theorem dX6_measured_157 : decode cX6_measured 157 = .ok (.ifCond .eq 15, 3) := by decide +kernel
theorem dX6_measured_160 : decode cX6_measured 160 = .ok (.aload_n 0, 1) := by decide +kernel
theorem dX6_measured_161 : decode cX6_measured 161 = .ok (.iload_n 3, 1) := by decide +kernel
theorem dX6_measured_162 : decode cX6_measured 162 = .ok (.iload 4, 2) := by decide +kernel
theorem dX6_measured_164 : decode cX6_measured 164 = .ok (.iload 5, 2) := by decide +kernel
theorem dX6_measured_166 : decode cX6_measured 166 = .ok (.invokevirtual 39, 3) := by decide +kernel
theorem dX6_measured_169 : decode cX6_measured 169 = .ok (.goto 4, 3) := by decide +kernel
theorem dX6_measured_172 : decode cX6_measured 172 = .ok (.iconst 0, 1) := by decide +kernel
theorem dX6_measured_173 : decode cX6_measured 173 = .ok (.ireturn, 1) := by decide +kernel
theorem dX6_measured_174 : decode cX6_measured 174 = .ok (.iconst 0, 1) := by decide +kernel
theorem dX6_measured_175 : decode cX6_measured 175 = .ok (.ireturn, 1) := by decide +kernel
theorem dX6_isWhole_0 : decode cX6_isWhole 0 = .ok (.iconst 0, 1) := by decide +kernel
theorem dX6_isWhole_1 : decode cX6_isWhole 1 = .ok (.istore_n 2, 1) := by decide +kernel
theorem dX6_isWhole_2 : decode cX6_isWhole 2 = .ok (.iload_n 2, 1) := by decide +kernel
theorem dX6_isWhole_3 : decode cX6_isWhole 3 = .ok (.iconst 4, 1) := by decide +kernel
theorem dX6_isWhole_4 : decode cX6_isWhole 4 = .ok (.if_icmp .ge 35, 3) := by decide +kernel
theorem dX6_isWhole_7 : decode cX6_isWhole 7 = .ok (.iconst 0, 1) := by decide +kernel
theorem dX6_isWhole_8 : decode cX6_isWhole 8 = .ok (.istore_n 3, 1) := by decide +kernel
theorem dX6_isWhole_9 : decode cX6_isWhole 9 = .ok (.iload_n 3, 1) := by decide +kernel
theorem dX6_isWhole_10 : decode cX6_isWhole 10 = .ok (.bipush 8, 2) := by decide +kernel
theorem dX6_isWhole_12 : decode cX6_isWhole 12 = .ok (.if_icmp .ge 21, 3) := by decide +kernel
theorem dX6_isWhole_15 : decode cX6_isWhole 15 = .ok (.aload_n 0, 1) := by decide +kernel
theorem dX6_isWhole_16 : decode cX6_isWhole 16 = .ok (.iload_n 2, 1) := by decide +kernel
theorem dX6_isWhole_17 : decode cX6_isWhole 17 = .ok (.iload_n 1, 1) := by decide +kernel
theorem dX6_isWhole_18 : decode cX6_isWhole 18 = .ok (.iload_n 3, 1) := by decide +kernel
theorem dX6_isWhole_19 : decode cX6_isWhole 19 = .ok (.invokevirtual 28, 3) := by decide +kernel
theorem dX6_isWhole_22 : decode cX6_isWhole 22 = .ok (.ifCond .ne 5, 3) := by decide +kernel
theorem dX6_isWhole_25 : decode cX6_isWhole 25 = .ok (.iconst 0, 1) := by decide +kernel
theorem dX6_isWhole_26 : decode cX6_isWhole 26 = .ok (.ireturn, 1) := by decide +kernel
theorem dX6_isWhole_27 : decode cX6_isWhole 27 = .ok (.iinc 3 1, 3) := by decide +kernel
theorem dX6_isWhole_30 : decode cX6_isWhole 30 = .ok (.goto (-21), 3) := by decide +kernel
theorem dX6_isWhole_33 : decode cX6_isWhole 33 = .ok (.iinc 2 1, 3) := by decide +kernel
theorem dX6_isWhole_36 : decode cX6_isWhole 36 = .ok (.goto (-34), 3) := by decide +kernel
theorem dX6_isWhole_39 : decode cX6_isWhole 39 = .ok (.iconst 1, 1) := by decide +kernel
theorem dX6_isWhole_40 : decode cX6_isWhole 40 = .ok (.ireturn, 1) := by decide +kernel
theorem dX6_wholeRings_0 : decode cX6_wholeRings 0 = .ok (.iconst 0, 1) := by decide +kernel
theorem dX6_wholeRings_1 : decode cX6_wholeRings 1 = .ok (.istore_n 1, 1) := by decide +kernel
theorem dX6_wholeRings_2 : decode cX6_wholeRings 2 = .ok (.iconst 0, 1) := by decide +kernel
theorem dX6_wholeRings_3 : decode cX6_wholeRings 3 = .ok (.istore_n 2, 1) := by decide +kernel
theorem dX6_wholeRings_4 : decode cX6_wholeRings 4 = .ok (.iload_n 2, 1) := by decide +kernel
theorem dX6_wholeRings_5 : decode cX6_wholeRings 5 = .ok (.iconst 5, 1) := by decide +kernel
theorem dX6_wholeRings_6 : decode cX6_wholeRings 6 = .ok (.if_icmp .ge 23, 3) := by decide +kernel
theorem dX6_wholeRings_9 : decode cX6_wholeRings 9 = .ok (.aload_n 0, 1) := by decide +kernel
theorem dX6_wholeRings_10 : decode cX6_wholeRings 10 = .ok (.iload_n 2, 1) := by decide +kernel
theorem dX6_wholeRings_11 : decode cX6_wholeRings 11 = .ok (.invokestatic 42, 3) := by decide +kernel
theorem dX6_wholeRings_14 : decode cX6_wholeRings 14 = .ok (.ifCond .eq 9, 3) := by decide +kernel
theorem dX6_wholeRings_17 : decode cX6_wholeRings 17 = .ok (.iload_n 1, 1) := by decide +kernel
theorem dX6_wholeRings_18 : decode cX6_wholeRings 18 = .ok (.iconst 1, 1) := by decide +kernel
theorem dX6_wholeRings_19 : decode cX6_wholeRings 19 = .ok (.iload_n 2, 1) := by decide +kernel
theorem dX6_wholeRings_20 : decode cX6_wholeRings 20 = .ok (.ishl, 1) := by decide +kernel
theorem dX6_wholeRings_21 : decode cX6_wholeRings 21 = .ok (.ior, 1) := by decide +kernel
theorem dX6_wholeRings_22 : decode cX6_wholeRings 22 = .ok (.istore_n 1, 1) := by decide +kernel
theorem dX6_wholeRings_23 : decode cX6_wholeRings 23 = .ok (.iinc 2 1, 3) := by decide +kernel
theorem dX6_wholeRings_26 : decode cX6_wholeRings 26 = .ok (.goto (-22), 3) := by decide +kernel
theorem dX6_wholeRings_29 : decode cX6_wholeRings 29 = .ok (.iload_n 1, 1) := by decide +kernel
theorem dX6_wholeRings_30 : decode cX6_wholeRings 30 = .ok (.ireturn, 1) := by decide +kernel
theorem dX6_unlikePlaces_0 : decode cX6_unlikePlaces 0 = .ok (.iconst 0, 1) := by decide +kernel
theorem dX6_unlikePlaces_1 : decode cX6_unlikePlaces 1 = .ok (.istore_n 2, 1) := by decide +kernel
theorem dX6_unlikePlaces_2 : decode cX6_unlikePlaces 2 = .ok (.iconst 0, 1) := by decide +kernel
theorem dX6_unlikePlaces_3 : decode cX6_unlikePlaces 3 = .ok (.istore_n 3, 1) := by decide +kernel
theorem dX6_unlikePlaces_4 : decode cX6_unlikePlaces 4 = .ok (.iload_n 3, 1) := by decide +kernel
theorem dX6_unlikePlaces_5 : decode cX6_unlikePlaces 5 = .ok (.bipush 8, 2) := by decide +kernel
theorem dX6_unlikePlaces_7 : decode cX6_unlikePlaces 7 = .ok (.if_icmp .ge 24, 3) := by decide +kernel
theorem dX6_unlikePlaces_10 : decode cX6_unlikePlaces 10 = .ok (.aload_n 0, 1) := by decide +kernel
theorem dX6_unlikePlaces_11 : decode cX6_unlikePlaces 11 = .ok (.iload_n 1, 1) := by decide +kernel
theorem dX6_unlikePlaces_12 : decode cX6_unlikePlaces 12 = .ok (.iload_n 3, 1) := by decide +kernel
theorem dX6_unlikePlaces_13 : decode cX6_unlikePlaces 13 = .ok (.invokestatic 46, 3) := by decide +kernel
theorem dX6_unlikePlaces_16 : decode cX6_unlikePlaces 16 = .ok (.ifCond .eq 9, 3) := by decide +kernel
theorem dX6_unlikePlaces_19 : decode cX6_unlikePlaces 19 = .ok (.iload_n 2, 1) := by decide +kernel
theorem dX6_unlikePlaces_20 : decode cX6_unlikePlaces 20 = .ok (.iconst 1, 1) := by decide +kernel
theorem dX6_unlikePlaces_21 : decode cX6_unlikePlaces 21 = .ok (.iload_n 3, 1) := by decide +kernel
theorem dX6_unlikePlaces_22 : decode cX6_unlikePlaces 22 = .ok (.ishl, 1) := by decide +kernel
theorem dX6_unlikePlaces_23 : decode cX6_unlikePlaces 23 = .ok (.ior, 1) := by decide +kernel
theorem dX6_unlikePlaces_24 : decode cX6_unlikePlaces 24 = .ok (.istore_n 2, 1) := by decide +kernel
theorem dX6_unlikePlaces_25 : decode cX6_unlikePlaces 25 = .ok (.iinc 3 1, 3) := by decide +kernel
theorem dX6_unlikePlaces_28 : decode cX6_unlikePlaces 28 = .ok (.goto (-24), 3) := by decide +kernel
theorem dX6_unlikePlaces_31 : decode cX6_unlikePlaces 31 = .ok (.iload_n 2, 1) := by decide +kernel
theorem dX6_unlikePlaces_32 : decode cX6_unlikePlaces 32 = .ok (.ireturn, 1) := by decide +kernel
theorem dX6_isUnlike_0 : decode cX6_isUnlike 0 = .ok (.aload_n 0, 1) := by decide +kernel
theorem dX6_isUnlike_1 : decode cX6_isUnlike 1 = .ok (.iconst 0, 1) := by decide +kernel
theorem dX6_isUnlike_2 : decode cX6_isUnlike 2 = .ok (.iload_n 1, 1) := by decide +kernel
theorem dX6_isUnlike_3 : decode cX6_isUnlike 3 = .ok (.iload_n 2, 1) := by decide +kernel
theorem dX6_isUnlike_4 : decode cX6_isUnlike 4 = .ok (.invokevirtual 19, 3) := by decide +kernel
theorem dX6_isUnlike_7 : decode cX6_isUnlike 7 = .ok (.istore_n 3, 1) := by decide +kernel
theorem dX6_isUnlike_8 : decode cX6_isUnlike 8 = .ok (.iconst 1, 1) := by decide +kernel
theorem dX6_isUnlike_9 : decode cX6_isUnlike 9 = .ok (.istore 4, 2) := by decide +kernel
theorem dX6_isUnlike_11 : decode cX6_isUnlike 11 = .ok (.iload 4, 2) := by decide +kernel
theorem dX6_isUnlike_13 : decode cX6_isUnlike 13 = .ok (.iconst 4, 1) := by decide +kernel
theorem dX6_isUnlike_14 : decode cX6_isUnlike 14 = .ok (.if_icmp .ge 29, 3) := by decide +kernel
theorem dX6_isUnlike_17 : decode cX6_isUnlike 17 = .ok (.aload_n 0, 1) := by decide +kernel
theorem dX6_isUnlike_18 : decode cX6_isUnlike 18 = .ok (.iload 4, 2) := by decide +kernel
theorem dX6_isUnlike_20 : decode cX6_isUnlike 20 = .ok (.iload_n 1, 1) := by decide +kernel
theorem dX6_isUnlike_21 : decode cX6_isUnlike 21 = .ok (.aload_n 0, 1) := by decide +kernel
theorem dX6_isUnlike_22 : decode cX6_isUnlike 22 = .ok (.iload 4, 2) := by decide +kernel
theorem dX6_isUnlike_24 : decode cX6_isUnlike 24 = .ok (.iload_n 2, 1) := by decide +kernel
theorem dX6_isUnlike_25 : decode cX6_isUnlike 25 = .ok (.invokevirtual 50, 3) := by decide +kernel
theorem dX6_isUnlike_28 : decode cX6_isUnlike 28 = .ok (.invokevirtual 19, 3) := by decide +kernel
theorem dX6_isUnlike_31 : decode cX6_isUnlike 31 = .ok (.iload_n 3, 1) := by decide +kernel
theorem dX6_isUnlike_32 : decode cX6_isUnlike 32 = .ok (.if_icmp .eq 5, 3) := by decide +kernel
theorem dX6_isUnlike_35 : decode cX6_isUnlike 35 = .ok (.iconst 1, 1) := by decide +kernel
theorem dX6_isUnlike_36 : decode cX6_isUnlike 36 = .ok (.ireturn, 1) := by decide +kernel
theorem dX6_isUnlike_37 : decode cX6_isUnlike 37 = .ok (.iinc 4 1, 3) := by decide +kernel
theorem dX6_isUnlike_40 : decode cX6_isUnlike 40 = .ok (.goto (-29), 3) := by decide +kernel
theorem dX6_isUnlike_43 : decode cX6_isUnlike 43 = .ok (.iconst 0, 1) := by decide +kernel
theorem dX6_isUnlike_44 : decode cX6_isUnlike 44 = .ok (.ireturn, 1) := by decide +kernel
theorem dX6_neediest_0 : decode cX6_neediest 0 = .ok (.bipush (-6), 2) := by decide +kernel
theorem dX6_neediest_2 : decode cX6_neediest 2 = .ok (.istore_n 1, 1) := by decide +kernel
theorem dX6_neediest_3 : decode cX6_neediest 3 = .ok (.aload_n 0, 1) := by decide +kernel
theorem dX6_neediest_4 : decode cX6_neediest 4 = .ok (.iconst 0, 1) := by decide +kernel
theorem dX6_neediest_5 : decode cX6_neediest 5 = .ok (.invokevirtual 54, 3) := by decide +kernel
theorem dX6_neediest_8 : decode cX6_neediest 8 = .ok (.istore_n 2, 1) := by decide +kernel
theorem dX6_neediest_9 : decode cX6_neediest 9 = .ok (.aload_n 0, 1) := by decide +kernel
theorem dX6_neediest_10 : decode cX6_neediest 10 = .ok (.bipush 19, 2) := by decide +kernel
theorem dX6_neediest_12 : decode cX6_neediest 12 = .ok (.invokevirtual 58, 3) := by decide +kernel
theorem dX6_neediest_15 : decode cX6_neediest 15 = .ok (.istore_n 3, 1) := by decide +kernel
theorem dX6_neediest_16 : decode cX6_neediest 16 = .ok (.iload_n 3, 1) := by decide +kernel
theorem dX6_neediest_17 : decode cX6_neediest 17 = .ok (.iconst 5, 1) := by decide +kernel
theorem dX6_neediest_18 : decode cX6_neediest 18 = .ok (.if_icmp .ge 85, 3) := by decide +kernel
theorem dX6_neediest_21 : decode cX6_neediest 21 = .ok (.iconst 0, 1) := by decide +kernel
theorem dX6_neediest_22 : decode cX6_neediest 22 = .ok (.istore 4, 2) := by decide +kernel
theorem dX6_neediest_24 : decode cX6_neediest 24 = .ok (.iload 4, 2) := by decide +kernel
theorem dX6_neediest_26 : decode cX6_neediest 26 = .ok (.iconst 4, 1) := by decide +kernel
theorem dX6_neediest_27 : decode cX6_neediest 27 = .ok (.if_icmp .ge 70, 3) := by decide +kernel
theorem dX6_neediest_30 : decode cX6_neediest 30 = .ok (.iconst 0, 1) := by decide +kernel
theorem dX6_neediest_31 : decode cX6_neediest 31 = .ok (.istore 5, 2) := by decide +kernel
theorem dX6_neediest_33 : decode cX6_neediest 33 = .ok (.iload 5, 2) := by decide +kernel
theorem dX6_neediest_35 : decode cX6_neediest 35 = .ok (.bipush 8, 2) := by decide +kernel
theorem dX6_neediest_37 : decode cX6_neediest 37 = .ok (.if_icmp .ge 54, 3) := by decide +kernel
theorem dX6_neediest_40 : decode cX6_neediest 40 = .ok (.aload_n 0, 1) := by decide +kernel
theorem dX6_neediest_41 : decode cX6_neediest 41 = .ok (.iload 4, 2) := by decide +kernel
theorem dX6_neediest_43 : decode cX6_neediest 43 = .ok (.iload_n 3, 1) := by decide +kernel
theorem dX6_neediest_44 : decode cX6_neediest 44 = .ok (.iload 5, 2) := by decide +kernel
theorem dX6_neediest_46 : decode cX6_neediest 46 = .ok (.invokevirtual 32, 3) := by decide +kernel
theorem dX6_neediest_49 : decode cX6_neediest 49 = .ok (.istore 6, 2) := by decide +kernel
theorem dX6_neediest_51 : decode cX6_neediest 51 = .ok (.iload 6, 2) := by decide +kernel
theorem dX6_neediest_53 : decode cX6_neediest 53 = .ok (.iload_n 2, 1) := by decide +kernel
theorem dX6_neediest_54 : decode cX6_neediest 54 = .ok (.if_icmp .ge 31, 3) := by decide +kernel
theorem dX6_neediest_57 : decode cX6_neediest 57 = .ok (.aload_n 0, 1) := by decide +kernel
theorem dX6_neediest_58 : decode cX6_neediest 58 = .ok (.iload 4, 2) := by decide +kernel
theorem dX6_neediest_60 : decode cX6_neediest 60 = .ok (.iload_n 3, 1) := by decide +kernel
theorem dX6_neediest_61 : decode cX6_neediest 61 = .ok (.iload 5, 2) := by decide +kernel
theorem dX6_neediest_63 : decode cX6_neediest 63 = .ok (.invokestatic 61, 3) := by decide +kernel
theorem dX6_neediest_66 : decode cX6_neediest 66 = .ok (.ifCond .eq 19, 3) := by decide +kernel
theorem dX6_neediest_69 : decode cX6_neediest 69 = .ok (.iload 6, 2) := by decide +kernel
theorem dX6_neediest_71 : decode cX6_neediest 71 = .ok (.istore_n 2, 1) := by decide +kernel
theorem dX6_neediest_72 : decode cX6_neediest 72 = .ok (.iload_n 3, 1) := by decide +kernel
theorem dX6_neediest_73 : decode cX6_neediest 73 = .ok (.iconst 4, 1) := by decide +kernel
theorem dX6_neediest_74 : decode cX6_neediest 74 = .ok (.imul, 1) := by decide +kernel
theorem dX6_neediest_75 : decode cX6_neediest 75 = .ok (.iload 4, 2) := by decide +kernel
theorem dX6_neediest_77 : decode cX6_neediest 77 = .ok (.iadd, 1) := by decide +kernel
theorem dX6_neediest_78 : decode cX6_neediest 78 = .ok (.bipush 8, 2) := by decide +kernel
theorem dX6_neediest_80 : decode cX6_neediest 80 = .ok (.imul, 1) := by decide +kernel
theorem dX6_neediest_81 : decode cX6_neediest 81 = .ok (.iload 5, 2) := by decide +kernel
theorem dX6_neediest_83 : decode cX6_neediest 83 = .ok (.iadd, 1) := by decide +kernel
theorem dX6_neediest_84 : decode cX6_neediest 84 = .ok (.istore_n 1, 1) := by decide +kernel
theorem dX6_neediest_85 : decode cX6_neediest 85 = .ok (.iinc 5 1, 3) := by decide +kernel
theorem dX6_neediest_88 : decode cX6_neediest 88 = .ok (.goto (-55), 3) := by decide +kernel
theorem dX6_neediest_91 : decode cX6_neediest 91 = .ok (.iinc 4 1, 3) := by decide +kernel
theorem dX6_neediest_94 : decode cX6_neediest 94 = .ok (.goto (-70), 3) := by decide +kernel
theorem dX6_neediest_97 : decode cX6_neediest 97 = .ok (.iinc 3 1, 3) := by decide +kernel
theorem dX6_neediest_100 : decode cX6_neediest 100 = .ok (.goto (-84), 3) := by decide +kernel
theorem dX6_neediest_103 : decode cX6_neediest 103 = .ok (.iload_n 1, 1) := by decide +kernel
theorem dX6_neediest_104 : decode cX6_neediest 104 = .ok (.ireturn, 1) := by decide +kernel
theorem dX6_canBePoured_0 : decode cX6_canBePoured 0 = .ok (.aload_n 0, 1) := by decide +kernel
theorem dX6_canBePoured_1 : decode cX6_canBePoured 1 = .ok (.iload_n 1, 1) := by decide +kernel
theorem dX6_canBePoured_2 : decode cX6_canBePoured 2 = .ok (.iload_n 2, 1) := by decide +kernel
theorem dX6_canBePoured_3 : decode cX6_canBePoured 3 = .ok (.iload_n 3, 1) := by decide +kernel
theorem dX6_canBePoured_4 : decode cX6_canBePoured 4 = .ok (.invokevirtual 25, 3) := by decide +kernel
theorem dX6_canBePoured_7 : decode cX6_canBePoured 7 = .ok (.istore 4, 2) := by decide +kernel
theorem dX6_canBePoured_9 : decode cX6_canBePoured 9 = .ok (.aload_n 0, 1) := by decide +kernel
theorem dX6_canBePoured_10 : decode cX6_canBePoured 10 = .ok (.iload_n 1, 1) := by decide +kernel
theorem dX6_canBePoured_11 : decode cX6_canBePoured 11 = .ok (.iload_n 2, 1) := by decide +kernel
theorem dX6_canBePoured_12 : decode cX6_canBePoured 12 = .ok (.iload_n 3, 1) := by decide +kernel
theorem dX6_canBePoured_13 : decode cX6_canBePoured 13 = .ok (.invokevirtual 19, 3) := by decide +kernel
theorem dX6_canBePoured_16 : decode cX6_canBePoured 16 = .ok (.istore 5, 2) := by decide +kernel
theorem dX6_canBePoured_18 : decode cX6_canBePoured 18 = .ok (.iload 4, 2) := by decide +kernel
theorem dX6_canBePoured_20 : decode cX6_canBePoured 20 = .ok (.invokestatic 65, 3) := by decide +kernel
theorem dX6_canBePoured_23 : decode cX6_canBePoured 23 = .ok (.ifCond .eq 19, 3) := by decide +kernel
theorem dX6_canBePoured_26 : decode cX6_canBePoured 26 = .ok (.iload 5, 2) := by decide +kernel
theorem dX6_canBePoured_28 : decode cX6_canBePoured 28 = .ok (.ifCond .eq 10, 3) := by decide +kernel
theorem dX6_canBePoured_31 : decode cX6_canBePoured 31 = .ok (.iload 5, 2) := by decide +kernel
theorem dX6_canBePoured_33 : decode cX6_canBePoured 33 = .ok (.iload 4, 2) := by decide +kernel
theorem dX6_canBePoured_35 : decode cX6_canBePoured 35 = .ok (.if_icmp .ne 7, 3) := by decide +kernel
theorem dX6_canBePoured_38 : decode cX6_canBePoured 38 = .ok (.iconst 1, 1) := by decide +kernel
theorem dX6_canBePoured_39 : decode cX6_canBePoured 39 = .ok (.goto 4, 3) := by decide +kernel
theorem dX6_canBePoured_42 : decode cX6_canBePoured 42 = .ok (.iconst 0, 1) := by decide +kernel
theorem dX6_canBePoured_43 : decode cX6_canBePoured 43 = .ok (.ireturn, 1) := by decide +kernel
theorem dX6_rightOnlyInFirst_0 : decode cX6_rightOnlyInFirst 0 = .ok (.iconst 0, 1) := by decide +kernel
theorem dX6_rightOnlyInFirst_1 : decode cX6_rightOnlyInFirst 1 = .ok (.istore_n 3, 1) := by decide +kernel
theorem dX6_rightOnlyInFirst_2 : decode cX6_rightOnlyInFirst 2 = .ok (.iconst 0, 1) := by decide +kernel
theorem dX6_rightOnlyInFirst_3 : decode cX6_rightOnlyInFirst 3 = .ok (.istore 4, 2) := by decide +kernel
theorem dX6_rightOnlyInFirst_5 : decode cX6_rightOnlyInFirst 5 = .ok (.iload 4, 2) := by decide +kernel
theorem dX6_rightOnlyInFirst_7 : decode cX6_rightOnlyInFirst 7 = .ok (.iconst 5, 1) := by decide +kernel
theorem dX6_rightOnlyInFirst_8 : decode cX6_rightOnlyInFirst 8 = .ok (.if_icmp .ge 52, 3) := by decide +kernel
theorem dX6_rightOnlyInFirst_11 : decode cX6_rightOnlyInFirst 11 = .ok (.iconst 0, 1) := by decide +kernel
theorem dX6_rightOnlyInFirst_12 : decode cX6_rightOnlyInFirst 12 = .ok (.istore 5, 2) := by decide +kernel
theorem dX6_rightOnlyInFirst_14 : decode cX6_rightOnlyInFirst 14 = .ok (.iload 5, 2) := by decide +kernel
theorem dX6_rightOnlyInFirst_16 : decode cX6_rightOnlyInFirst 16 = .ok (.bipush 8, 2) := by decide +kernel
theorem dX6_rightOnlyInFirst_18 : decode cX6_rightOnlyInFirst 18 = .ok (.if_icmp .ge 36, 3) := by decide +kernel
theorem dX6_rightOnlyInFirst_21 : decode cX6_rightOnlyInFirst 21 = .ok (.aload_n 0, 1) := by decide +kernel
theorem dX6_rightOnlyInFirst_22 : decode cX6_rightOnlyInFirst 22 = .ok (.iload_n 2, 1) := by decide +kernel
theorem dX6_rightOnlyInFirst_23 : decode cX6_rightOnlyInFirst 23 = .ok (.iload 4, 2) := by decide +kernel
theorem dX6_rightOnlyInFirst_25 : decode cX6_rightOnlyInFirst 25 = .ok (.iload 5, 2) := by decide +kernel
theorem dX6_rightOnlyInFirst_27 : decode cX6_rightOnlyInFirst 27 = .ok (.invokevirtual 28, 3) := by decide +kernel
theorem dX6_rightOnlyInFirst_30 : decode cX6_rightOnlyInFirst 30 = .ok (.ifCond .eq 18, 3) := by decide +kernel
theorem dX6_rightOnlyInFirst_33 : decode cX6_rightOnlyInFirst 33 = .ok (.aload_n 1, 1) := by decide +kernel
theorem dX6_rightOnlyInFirst_34 : decode cX6_rightOnlyInFirst 34 = .ok (.iload_n 2, 1) := by decide +kernel
theorem dX6_rightOnlyInFirst_35 : decode cX6_rightOnlyInFirst 35 = .ok (.iload 4, 2) := by decide +kernel
theorem dX6_rightOnlyInFirst_37 : decode cX6_rightOnlyInFirst 37 = .ok (.iload 5, 2) := by decide +kernel
theorem dX6_rightOnlyInFirst_39 : decode cX6_rightOnlyInFirst 39 = .ok (.invokevirtual 28, 3) := by decide +kernel
theorem dX6_rightOnlyInFirst_42 : decode cX6_rightOnlyInFirst 42 = .ok (.ifCond .ne 6, 3) := by decide +kernel
theorem dX6_rightOnlyInFirst_45 : decode cX6_rightOnlyInFirst 45 = .ok (.iinc 3 1, 3) := by decide +kernel
theorem dX6_rightOnlyInFirst_48 : decode cX6_rightOnlyInFirst 48 = .ok (.iinc 5 1, 3) := by decide +kernel
theorem dX6_rightOnlyInFirst_51 : decode cX6_rightOnlyInFirst 51 = .ok (.goto (-37), 3) := by decide +kernel
theorem dX6_rightOnlyInFirst_54 : decode cX6_rightOnlyInFirst 54 = .ok (.iinc 4 1, 3) := by decide +kernel
theorem dX6_rightOnlyInFirst_57 : decode cX6_rightOnlyInFirst 57 = .ok (.goto (-52), 3) := by decide +kernel
theorem dX6_rightOnlyInFirst_60 : decode cX6_rightOnlyInFirst 60 = .ok (.iload_n 3, 1) := by decide +kernel
theorem dX6_rightOnlyInFirst_61 : decode cX6_rightOnlyInFirst 61 = .ok (.ireturn, 1) := by decide +kernel
theorem dX7_init_0 : decode cX7_init 0 = .ok (.aload_n 0, 1) := by decide +kernel
theorem dX7_init_1 : decode cX7_init 1 = .ok (.invokespecial 1, 3) := by decide +kernel
theorem dX7_init_4 : decode cX7_init 4 = .ok (.aload_n 0, 1) := by decide +kernel
theorem dX7_init_5 : decode cX7_init 5 = .ok (.new 7, 3) := by decide +kernel
theorem dX7_init_8 : decode cX7_init 8 = .ok (.dup, 1) := by decide +kernel
theorem dX7_init_9 : decode cX7_init 9 = .ok (.invokespecial 9, 3) := by decide +kernel
theorem dX7_init_12 : decode cX7_init 12 = .ok (.putfield 10, 3) := by decide +kernel
theorem dX7_init_15 : decode cX7_init 15 = .ok (.aload_n 0, 1) := by decide +kernel
theorem dX7_init_16 : decode cX7_init 16 = .ok (.new 7, 3) := by decide +kernel
theorem dX7_init_19 : decode cX7_init 19 = .ok (.dup, 1) := by decide +kernel
theorem dX7_init_20 : decode cX7_init 20 = .ok (.invokespecial 9, 3) := by decide +kernel
theorem dX7_init_23 : decode cX7_init 23 = .ok (.putfield 16, 3) := by decide +kernel
theorem dX7_init_26 : decode cX7_init 26 = .ok (.aload_n 0, 1) := by decide +kernel
theorem dX7_init_27 : decode cX7_init 27 = .ok (.new 19, 3) := by decide +kernel
theorem dX7_init_30 : decode cX7_init 30 = .ok (.dup, 1) := by decide +kernel
theorem dX7_init_31 : decode cX7_init 31 = .ok (.invokespecial 21, 3) := by decide +kernel
theorem dX7_init_34 : decode cX7_init 34 = .ok (.putfield 22, 3) := by decide +kernel
theorem dX7_init_37 : decode cX7_init 37 = .ok (.aload_n 0, 1) := by decide +kernel
theorem dX7_init_38 : decode cX7_init 38 = .ok (.new 26, 3) := by decide +kernel
theorem dX7_init_41 : decode cX7_init 41 = .ok (.dup, 1) := by decide +kernel
theorem dX7_init_42 : decode cX7_init 42 = .ok (.invokespecial 28, 3) := by decide +kernel
theorem dX7_init_45 : decode cX7_init 45 = .ok (.putfield 29, 3) := by decide +kernel
theorem dX7_init_48 : decode cX7_init 48 = .ok (.aload_n 0, 1) := by decide +kernel
theorem dX7_init_49 : decode cX7_init 49 = .ok (.new 33, 3) := by decide +kernel
theorem dX7_init_52 : decode cX7_init 52 = .ok (.dup, 1) := by decide +kernel
theorem dX7_init_53 : decode cX7_init 53 = .ok (.invokespecial 35, 3) := by decide +kernel
theorem dX7_init_56 : decode cX7_init 56 = .ok (.putfield 36, 3) := by decide +kernel
theorem dX7_init_59 : decode cX7_init 59 = .ok (.return_, 1) := by decide +kernel
theorem dX7_set_0 : decode cX7_set 0 = .ok (.aload_n 0, 1) := by decide +kernel
theorem dX7_set_1 : decode cX7_set 1 = .ok (.getfield 29, 3) := by decide +kernel
theorem dX7_set_4 : decode cX7_set 4 = .ok (.aload_n 0, 1) := by decide +kernel
theorem dX7_set_5 : decode cX7_set 5 = .ok (.getfield 10, 3) := by decide +kernel
theorem dX7_set_8 : decode cX7_set 8 = .ok (.invokevirtual 40, 3) := by decide +kernel
theorem dX7_set_11 : decode cX7_set 11 = .ok (.aload_n 0, 1) := by decide +kernel
theorem dX7_set_12 : decode cX7_set 12 = .ok (.getfield 29, 3) := by decide +kernel
theorem dX7_set_15 : decode cX7_set 15 = .ok (.aload_n 0, 1) := by decide +kernel
theorem dX7_set_16 : decode cX7_set 16 = .ok (.getfield 10, 3) := by decide +kernel
theorem dX7_set_19 : decode cX7_set 19 = .ok (.iload_n 1, 1) := by decide +kernel
theorem dX7_set_20 : decode cX7_set 20 = .ok (.iload_n 2, 1) := by decide +kernel
theorem dX7_set_21 : decode cX7_set 21 = .ok (.invokestatic 44, 3) := by decide +kernel
theorem dX7_set_24 : decode cX7_set 24 = .ok (.invokevirtual 50, 3) := by decide +kernel
theorem dX7_set_27 : decode cX7_set 27 = .ok (.ireturn, 1) := by decide +kernel
theorem dX7_pattern_0 : decode cX7_pattern 0 = .ok (.aload_n 0, 1) := by decide +kernel
theorem dX7_pattern_1 : decode cX7_pattern 1 = .ok (.getfield 29, 3) := by decide +kernel
theorem dX7_pattern_4 : decode cX7_pattern 4 = .ok (.aload_n 0, 1) := by decide +kernel
theorem dX7_pattern_5 : decode cX7_pattern 5 = .ok (.getfield 10, 3) := by decide +kernel
theorem dX7_pattern_8 : decode cX7_pattern 8 = .ok (.invokevirtual 40, 3) := by decide +kernel
theorem dX7_pattern_11 : decode cX7_pattern 11 = .ok (.aload_n 0, 1) := by decide +kernel
theorem dX7_pattern_12 : decode cX7_pattern 12 = .ok (.getfield 29, 3) := by decide +kernel
theorem dX7_pattern_15 : decode cX7_pattern 15 = .ok (.aload_n 0, 1) := by decide +kernel
theorem dX7_pattern_16 : decode cX7_pattern 16 = .ok (.getfield 10, 3) := by decide +kernel
theorem dX7_pattern_19 : decode cX7_pattern 19 = .ok (.iload_n 1, 1) := by decide +kernel
theorem dX7_pattern_20 : decode cX7_pattern 20 = .ok (.iload_n 2, 1) := by decide +kernel
theorem dX7_pattern_21 : decode cX7_pattern 21 = .ok (.invokestatic 54, 3) := by decide +kernel
theorem dX7_pattern_24 : decode cX7_pattern 24 = .ok (.invokevirtual 50, 3) := by decide +kernel
theorem dX7_pattern_27 : decode cX7_pattern 27 = .ok (.ireturn, 1) := by decide +kernel
theorem dX7_take_0 : decode cX7_take 0 = .ok (.aload_n 0, 1) := by decide +kernel
theorem dX7_take_1 : decode cX7_take 1 = .ok (.getfield 29, 3) := by decide +kernel
theorem dX7_take_4 : decode cX7_take 4 = .ok (.aload_n 0, 1) := by decide +kernel
theorem dX7_take_5 : decode cX7_take 5 = .ok (.getfield 10, 3) := by decide +kernel
theorem dX7_take_8 : decode cX7_take 8 = .ok (.invokevirtual 40, 3) := by decide +kernel
theorem dX7_take_11 : decode cX7_take 11 = .ok (.aload_n 0, 1) := by decide +kernel
theorem dX7_take_12 : decode cX7_take 12 = .ok (.getfield 29, 3) := by decide +kernel
theorem dX7_take_15 : decode cX7_take 15 = .ok (.aload_n 0, 1) := by decide +kernel
theorem dX7_take_16 : decode cX7_take 16 = .ok (.getfield 10, 3) := by decide +kernel
theorem dX7_take_19 : decode cX7_take 19 = .ok (.iload_n 1, 1) := by decide +kernel
theorem dX7_take_20 : decode cX7_take 20 = .ok (.iload_n 2, 1) := by decide +kernel
theorem dX7_take_21 : decode cX7_take 21 = .ok (.invokestatic 57, 3) := by decide +kernel
theorem dX7_take_24 : decode cX7_take 24 = .ok (.invokevirtual 50, 3) := by decide +kernel
theorem dX7_take_27 : decode cX7_take 27 = .ok (.ireturn, 1) := by decide +kernel
theorem dX7_fill_0 : decode cX7_fill 0 = .ok (.aload_n 0, 1) := by decide +kernel
theorem dX7_fill_1 : decode cX7_fill 1 = .ok (.getfield 29, 3) := by decide +kernel
theorem dX7_fill_4 : decode cX7_fill 4 = .ok (.aload_n 0, 1) := by decide +kernel
theorem dX7_fill_5 : decode cX7_fill 5 = .ok (.getfield 10, 3) := by decide +kernel
theorem dX7_fill_8 : decode cX7_fill 8 = .ok (.invokevirtual 40, 3) := by decide +kernel
theorem dX7_fill_11 : decode cX7_fill 11 = .ok (.aload_n 0, 1) := by decide +kernel
theorem dX7_fill_12 : decode cX7_fill 12 = .ok (.getfield 29, 3) := by decide +kernel
theorem dX7_fill_15 : decode cX7_fill 15 = .ok (.aload_n 0, 1) := by decide +kernel
theorem dX7_fill_16 : decode cX7_fill 16 = .ok (.getfield 10, 3) := by decide +kernel
theorem dX7_fill_19 : decode cX7_fill 19 = .ok (.iload_n 1, 1) := by decide +kernel
theorem dX7_fill_20 : decode cX7_fill 20 = .ok (.iload_n 2, 1) := by decide +kernel
theorem dX7_fill_21 : decode cX7_fill 21 = .ok (.invokestatic 60, 3) := by decide +kernel
theorem dX7_fill_24 : decode cX7_fill 24 = .ok (.invokevirtual 50, 3) := by decide +kernel
theorem dX7_fill_27 : decode cX7_fill 27 = .ok (.ireturn, 1) := by decide +kernel
theorem dX7_pour_0 : decode cX7_pour 0 = .ok (.aload_n 0, 1) := by decide +kernel
theorem dX7_pour_1 : decode cX7_pour 1 = .ok (.getfield 29, 3) := by decide +kernel
theorem dX7_pour_4 : decode cX7_pour 4 = .ok (.aload_n 0, 1) := by decide +kernel
theorem dX7_pour_5 : decode cX7_pour 5 = .ok (.getfield 10, 3) := by decide +kernel
theorem dX7_pour_8 : decode cX7_pour 8 = .ok (.invokevirtual 40, 3) := by decide +kernel
theorem dX7_pour_11 : decode cX7_pour 11 = .ok (.aload_n 0, 1) := by decide +kernel
theorem dX7_pour_12 : decode cX7_pour 12 = .ok (.getfield 29, 3) := by decide +kernel
theorem dX7_pour_15 : decode cX7_pour 15 = .ok (.aload_n 0, 1) := by decide +kernel
theorem dX7_pour_16 : decode cX7_pour 16 = .ok (.getfield 10, 3) := by decide +kernel
theorem dX7_pour_19 : decode cX7_pour 19 = .ok (.iload_n 1, 1) := by decide +kernel
theorem dX7_pour_20 : decode cX7_pour 20 = .ok (.iload_n 2, 1) := by decide +kernel
theorem dX7_pour_21 : decode cX7_pour 21 = .ok (.iload_n 3, 1) := by decide +kernel
theorem dX7_pour_22 : decode cX7_pour 22 = .ok (.iload 4, 2) := by decide +kernel
theorem dX7_pour_24 : decode cX7_pour 24 = .ok (.invokestatic 63, 3) := by decide +kernel
theorem dX7_pour_27 : decode cX7_pour 27 = .ok (.invokevirtual 50, 3) := by decide +kernel
theorem dX7_pour_30 : decode cX7_pour 30 = .ok (.ireturn, 1) := by decide +kernel
theorem dX7_scrape_0 : decode cX7_scrape 0 = .ok (.aload_n 0, 1) := by decide +kernel
theorem dX7_scrape_1 : decode cX7_scrape 1 = .ok (.getfield 29, 3) := by decide +kernel
theorem dX7_scrape_4 : decode cX7_scrape 4 = .ok (.aload_n 0, 1) := by decide +kernel
theorem dX7_scrape_5 : decode cX7_scrape 5 = .ok (.getfield 10, 3) := by decide +kernel
theorem dX7_scrape_8 : decode cX7_scrape 8 = .ok (.invokevirtual 40, 3) := by decide +kernel
theorem dX7_scrape_11 : decode cX7_scrape 11 = .ok (.aload_n 0, 1) := by decide +kernel
theorem dX7_scrape_12 : decode cX7_scrape 12 = .ok (.getfield 29, 3) := by decide +kernel
theorem dX7_scrape_15 : decode cX7_scrape 15 = .ok (.aload_n 0, 1) := by decide +kernel
theorem dX7_scrape_16 : decode cX7_scrape 16 = .ok (.getfield 10, 3) := by decide +kernel
theorem dX7_scrape_19 : decode cX7_scrape 19 = .ok (.iload_n 1, 1) := by decide +kernel
theorem dX7_scrape_20 : decode cX7_scrape 20 = .ok (.iload_n 2, 1) := by decide +kernel
theorem dX7_scrape_21 : decode cX7_scrape 21 = .ok (.iload_n 3, 1) := by decide +kernel
theorem dX7_scrape_22 : decode cX7_scrape 22 = .ok (.invokestatic 67, 3) := by decide +kernel
theorem dX7_scrape_25 : decode cX7_scrape 25 = .ok (.invokevirtual 50, 3) := by decide +kernel
theorem dX7_scrape_28 : decode cX7_scrape 28 = .ok (.ireturn, 1) := by decide +kernel
theorem dX7_breathe_0 : decode cX7_breathe 0 = .ok (.aload_n 0, 1) := by decide +kernel
theorem dX7_breathe_1 : decode cX7_breathe 1 = .ok (.getfield 29, 3) := by decide +kernel
theorem dX7_breathe_4 : decode cX7_breathe 4 = .ok (.aload_n 0, 1) := by decide +kernel
theorem dX7_breathe_5 : decode cX7_breathe 5 = .ok (.getfield 10, 3) := by decide +kernel
theorem dX7_breathe_8 : decode cX7_breathe 8 = .ok (.invokevirtual 40, 3) := by decide +kernel
theorem dX7_breathe_11 : decode cX7_breathe 11 = .ok (.aload_n 0, 1) := by decide +kernel
theorem dX7_breathe_12 : decode cX7_breathe 12 = .ok (.getfield 29, 3) := by decide +kernel
theorem dX7_breathe_15 : decode cX7_breathe 15 = .ok (.aload_n 0, 1) := by decide +kernel
theorem dX7_breathe_16 : decode cX7_breathe 16 = .ok (.getfield 10, 3) := by decide +kernel
theorem dX7_breathe_19 : decode cX7_breathe 19 = .ok (.aload_n 0, 1) := by decide +kernel
theorem dX7_breathe_20 : decode cX7_breathe 20 = .ok (.getfield 22, 3) := by decide +kernel
theorem dX7_breathe_23 : decode cX7_breathe 23 = .ok (.iload_n 1, 1) := by decide +kernel
theorem dX7_breathe_24 : decode cX7_breathe 24 = .ok (.iload_n 2, 1) := by decide +kernel
theorem dX7_breathe_25 : decode cX7_breathe 25 = .ok (.invokestatic 71, 3) := by decide +kernel
theorem dX7_breathe_28 : decode cX7_breathe 28 = .ok (.invokevirtual 50, 3) := by decide +kernel
theorem dX7_breathe_31 : decode cX7_breathe 31 = .ok (.ireturn, 1) := by decide +kernel
theorem dX7_close_0 : decode cX7_close 0 = .ok (.aload_n 0, 1) := by decide +kernel
theorem dX7_close_1 : decode cX7_close 1 = .ok (.getfield 29, 3) := by decide +kernel
theorem dX7_close_4 : decode cX7_close 4 = .ok (.aload_n 0, 1) := by decide +kernel
theorem dX7_close_5 : decode cX7_close 5 = .ok (.getfield 10, 3) := by decide +kernel
theorem dX7_close_8 : decode cX7_close 8 = .ok (.invokevirtual 40, 3) := by decide +kernel
theorem dX7_close_11 : decode cX7_close 11 = .ok (.aload_n 0, 1) := by decide +kernel
theorem dX7_close_12 : decode cX7_close 12 = .ok (.getfield 29, 3) := by decide +kernel
theorem dX7_close_15 : decode cX7_close 15 = .ok (.aload_n 0, 1) := by decide +kernel
theorem dX7_close_16 : decode cX7_close 16 = .ok (.getfield 10, 3) := by decide +kernel
theorem dX7_close_19 : decode cX7_close 19 = .ok (.invokestatic 75, 3) := by decide +kernel
theorem dX7_close_22 : decode cX7_close 22 = .ok (.invokevirtual 50, 3) := by decide +kernel
theorem dX7_close_25 : decode cX7_close 25 = .ok (.ireturn, 1) := by decide +kernel
theorem dX7_sweep_0 : decode cX7_sweep 0 = .ok (.aload_n 0, 1) := by decide +kernel
theorem dX7_sweep_1 : decode cX7_sweep 1 = .ok (.getfield 29, 3) := by decide +kernel
theorem dX7_sweep_4 : decode cX7_sweep 4 = .ok (.aload_n 0, 1) := by decide +kernel
theorem dX7_sweep_5 : decode cX7_sweep 5 = .ok (.getfield 10, 3) := by decide +kernel
theorem dX7_sweep_8 : decode cX7_sweep 8 = .ok (.invokevirtual 40, 3) := by decide +kernel
theorem dX7_sweep_11 : decode cX7_sweep 11 = .ok (.aload_n 0, 1) := by decide +kernel
theorem dX7_sweep_12 : decode cX7_sweep 12 = .ok (.getfield 29, 3) := by decide +kernel
theorem dX7_sweep_15 : decode cX7_sweep 15 = .ok (.aload_n 0, 1) := by decide +kernel
theorem dX7_sweep_16 : decode cX7_sweep 16 = .ok (.getfield 10, 3) := by decide +kernel
theorem dX7_sweep_19 : decode cX7_sweep 19 = .ok (.invokestatic 79, 3) := by decide +kernel
theorem dX7_sweep_22 : decode cX7_sweep 22 = .ok (.invokevirtual 50, 3) := by decide +kernel
theorem dX7_sweep_25 : decode cX7_sweep 25 = .ok (.ireturn, 1) := by decide +kernel
theorem dX7_at_0 : decode cX7_at 0 = .ok (.iload_n 1, 1) := by decide +kernel
theorem dX7_at_1 : decode cX7_at 1 = .ok (.iload_n 2, 1) := by decide +kernel
theorem dX7_at_2 : decode cX7_at 2 = .ok (.iload_n 3, 1) := by decide +kernel
theorem dX7_at_3 : decode cX7_at 3 = .ok (.invokestatic 82, 3) := by decide +kernel
theorem dX7_at_6 : decode cX7_at 6 = .ok (.ifCond .ne 5, 3) := by decide +kernel
theorem dX7_at_9 : decode cX7_at 9 = .ok (.iconst (-1), 1) := by decide +kernel
theorem dX7_at_10 : decode cX7_at 10 = .ok (.ireturn, 1) := by decide +kernel
theorem dX7_at_11 : decode cX7_at 11 = .ok (.iload 4, 2) := by decide +kernel
theorem dX7_at_13 : decode cX7_at 13 = .ok (.tableswitch 92 0 4 #[35, 46, 57, 68, 82], 35) := by decide +kernel
theorem dX7_at_48 : decode cX7_at 48 = .ok (.aload_n 0, 1) := by decide +kernel
theorem dX7_at_49 : decode cX7_at 49 = .ok (.getfield 10, 3) := by decide +kernel
theorem dX7_at_52 : decode cX7_at 52 = .ok (.iload_n 1, 1) := by decide +kernel
theorem dX7_at_53 : decode cX7_at 53 = .ok (.iload_n 2, 1) := by decide +kernel
theorem dX7_at_54 : decode cX7_at 54 = .ok (.iload_n 3, 1) := by decide +kernel
theorem dX7_at_55 : decode cX7_at 55 = .ok (.invokevirtual 86, 3) := by decide +kernel
theorem dX7_at_58 : decode cX7_at 58 = .ok (.ireturn, 1) := by decide +kernel
theorem dX7_at_59 : decode cX7_at 59 = .ok (.aload_n 0, 1) := by decide +kernel
theorem dX7_at_60 : decode cX7_at 60 = .ok (.getfield 10, 3) := by decide +kernel
theorem dX7_at_63 : decode cX7_at 63 = .ok (.iload_n 1, 1) := by decide +kernel
theorem dX7_at_64 : decode cX7_at 64 = .ok (.iload_n 2, 1) := by decide +kernel
theorem dX7_at_65 : decode cX7_at 65 = .ok (.iload_n 3, 1) := by decide +kernel
theorem dX7_at_66 : decode cX7_at 66 = .ok (.invokevirtual 90, 3) := by decide +kernel
theorem dX7_at_69 : decode cX7_at 69 = .ok (.ireturn, 1) := by decide +kernel
theorem dX7_at_70 : decode cX7_at 70 = .ok (.aload_n 0, 1) := by decide +kernel
theorem dX7_at_71 : decode cX7_at 71 = .ok (.getfield 10, 3) := by decide +kernel
theorem dX7_at_74 : decode cX7_at 74 = .ok (.iload_n 1, 1) := by decide +kernel
theorem dX7_at_75 : decode cX7_at 75 = .ok (.iload_n 2, 1) := by decide +kernel
theorem dX7_at_76 : decode cX7_at 76 = .ok (.iload_n 3, 1) := by decide +kernel
theorem dX7_at_77 : decode cX7_at 77 = .ok (.invokevirtual 93, 3) := by decide +kernel
theorem dX7_at_80 : decode cX7_at 80 = .ok (.ireturn, 1) := by decide +kernel
theorem dX7_at_81 : decode cX7_at 81 = .ok (.aload_n 0, 1) := by decide +kernel
theorem dX7_at_82 : decode cX7_at 82 = .ok (.getfield 10, 3) := by decide +kernel
theorem dX7_at_85 : decode cX7_at 85 = .ok (.iload_n 1, 1) := by decide +kernel
theorem dX7_at_86 : decode cX7_at 86 = .ok (.iload_n 2, 1) := by decide +kernel
theorem dX7_at_87 : decode cX7_at 87 = .ok (.iload_n 3, 1) := by decide +kernel
theorem dX7_at_88 : decode cX7_at 88 = .ok (.invokevirtual 96, 3) := by decide +kernel
theorem dX7_at_91 : decode cX7_at 91 = .ok (.invokestatic 99, 3) := by decide +kernel
theorem dX7_at_94 : decode cX7_at 94 = .ok (.ireturn, 1) := by decide +kernel
theorem dX7_at_95 : decode cX7_at 95 = .ok (.aload_n 0, 1) := by decide +kernel
theorem dX7_at_96 : decode cX7_at 96 = .ok (.getfield 10, 3) := by decide +kernel
theorem dX7_at_99 : decode cX7_at 99 = .ok (.iload_n 1, 1) := by decide +kernel
theorem dX7_at_100 : decode cX7_at 100 = .ok (.iload_n 3, 1) := by decide +kernel
theorem dX7_at_101 : decode cX7_at 101 = .ok (.invokevirtual 103, 3) := by decide +kernel
theorem dX7_at_104 : decode cX7_at 104 = .ok (.ireturn, 1) := by decide +kernel
theorem dX7_at_105 : decode cX7_at 105 = .ok (.bipush (-2), 2) := by decide +kernel
theorem dX7_at_107 : decode cX7_at 107 = .ok (.ireturn, 1) := by decide +kernel
theorem dX7_ofRing_0 : decode cX7_ofRing 0 = .ok (.iload_n 1, 1) := by decide +kernel
theorem dX7_ofRing_1 : decode cX7_ofRing 1 = .ok (.invokestatic 107, 3) := by decide +kernel
theorem dX7_ofRing_4 : decode cX7_ofRing 4 = .ok (.ifCond .ne 5, 3) := by decide +kernel
theorem dX7_ofRing_7 : decode cX7_ofRing 7 = .ok (.iconst (-1), 1) := by decide +kernel
theorem dX7_ofRing_8 : decode cX7_ofRing 8 = .ok (.ireturn, 1) := by decide +kernel
theorem dX7_ofRing_9 : decode cX7_ofRing 9 = .ok (.iload_n 2, 1) := by decide +kernel
theorem dX7_ofRing_10 : decode cX7_ofRing 10 = .ok (.tableswitch 123 0 6 #[42, 54, 66, 78, 87, 99, 111], 42) := by decide +kernel
theorem dX7_ofRing_52 : decode cX7_ofRing 52 = .ok (.aload_n 0, 1) := by decide +kernel
theorem dX7_ofRing_53 : decode cX7_ofRing 53 = .ok (.getfield 10, 3) := by decide +kernel
theorem dX7_ofRing_56 : decode cX7_ofRing 56 = .ok (.iload_n 1, 1) := by decide +kernel
theorem dX7_ofRing_57 : decode cX7_ofRing 57 = .ok (.invokevirtual 111, 3) := by decide +kernel
theorem dX7_ofRing_60 : decode cX7_ofRing 60 = .ok (.invokestatic 99, 3) := by decide +kernel
theorem dX7_ofRing_63 : decode cX7_ofRing 63 = .ok (.ireturn, 1) := by decide +kernel
theorem dX7_ofRing_64 : decode cX7_ofRing 64 = .ok (.aload_n 0, 1) := by decide +kernel
theorem dX7_ofRing_65 : decode cX7_ofRing 65 = .ok (.getfield 10, 3) := by decide +kernel
theorem dX7_ofRing_68 : decode cX7_ofRing 68 = .ok (.iload_n 1, 1) := by decide +kernel
theorem dX7_ofRing_69 : decode cX7_ofRing 69 = .ok (.invokevirtual 114, 3) := by decide +kernel
theorem dX7_ofRing_72 : decode cX7_ofRing 72 = .ok (.invokestatic 99, 3) := by decide +kernel
theorem dX7_ofRing_75 : decode cX7_ofRing 75 = .ok (.ireturn, 1) := by decide +kernel
theorem dX7_ofRing_76 : decode cX7_ofRing 76 = .ok (.aload_n 0, 1) := by decide +kernel
theorem dX7_ofRing_77 : decode cX7_ofRing 77 = .ok (.getfield 10, 3) := by decide +kernel
theorem dX7_ofRing_80 : decode cX7_ofRing 80 = .ok (.iload_n 1, 1) := by decide +kernel
theorem dX7_ofRing_81 : decode cX7_ofRing 81 = .ok (.invokestatic 117, 3) := by decide +kernel
theorem dX7_ofRing_84 : decode cX7_ofRing 84 = .ok (.invokestatic 99, 3) := by decide +kernel
theorem dX7_ofRing_87 : decode cX7_ofRing 87 = .ok (.ireturn, 1) := by decide +kernel
theorem dX7_ofRing_88 : decode cX7_ofRing 88 = .ok (.aload_n 0, 1) := by decide +kernel
theorem dX7_ofRing_89 : decode cX7_ofRing 89 = .ok (.getfield 10, 3) := by decide +kernel
theorem dX7_ofRing_92 : decode cX7_ofRing 92 = .ok (.iload_n 1, 1) := by decide +kernel
theorem dX7_ofRing_93 : decode cX7_ofRing 93 = .ok (.invokestatic 123, 3) := by decide +kernel
theorem dX7_ofRing_96 : decode cX7_ofRing 96 = .ok (.ireturn, 1) := by decide +kernel
theorem dX7_ofRing_97 : decode cX7_ofRing 97 = .ok (.aload_n 0, 1) := by decide +kernel
theorem dX7_ofRing_98 : decode cX7_ofRing 98 = .ok (.getfield 10, 3) := by decide +kernel
theorem dX7_ofRing_101 : decode cX7_ofRing 101 = .ok (.iconst 2, 1) := by decide +kernel
theorem dX7_ofRing_102 : decode cX7_ofRing 102 = .ok (.iconst (-1), 1) := by decide +kernel
theorem dX7_ofRing_103 : decode cX7_ofRing 103 = .ok (.iconst (-1), 1) := by decide +kernel
theorem dX7_ofRing_104 : decode cX7_ofRing 104 = .ok (.iload_n 1, 1) := by decide +kernel
theorem dX7_ofRing_105 : decode cX7_ofRing 105 = .ok (.invokestatic 127, 3) := by decide +kernel
theorem dX7_ofRing_108 : decode cX7_ofRing 108 = .ok (.ireturn, 1) := by decide +kernel
theorem dX7_ofRing_109 : decode cX7_ofRing 109 = .ok (.aload_n 0, 1) := by decide +kernel
theorem dX7_ofRing_110 : decode cX7_ofRing 110 = .ok (.getfield 10, 3) := by decide +kernel
theorem dX7_ofRing_113 : decode cX7_ofRing 113 = .ok (.iconst 0, 1) := by decide +kernel
theorem dX7_ofRing_114 : decode cX7_ofRing 114 = .ok (.iconst (-1), 1) := by decide +kernel
theorem dX7_ofRing_115 : decode cX7_ofRing 115 = .ok (.iconst (-1), 1) := by decide +kernel
theorem dX7_ofRing_116 : decode cX7_ofRing 116 = .ok (.iload_n 1, 1) := by decide +kernel
theorem dX7_ofRing_117 : decode cX7_ofRing 117 = .ok (.invokestatic 127, 3) := by decide +kernel
theorem dX7_ofRing_120 : decode cX7_ofRing 120 = .ok (.ireturn, 1) := by decide +kernel
theorem dX7_ofRing_121 : decode cX7_ofRing 121 = .ok (.aload_n 0, 1) := by decide +kernel
theorem dX7_ofRing_122 : decode cX7_ofRing 122 = .ok (.getfield 10, 3) := by decide +kernel
theorem dX7_ofRing_125 : decode cX7_ofRing 125 = .ok (.iconst 5, 1) := by decide +kernel
theorem dX7_ofRing_126 : decode cX7_ofRing 126 = .ok (.iconst (-1), 1) := by decide +kernel
theorem dX7_ofRing_127 : decode cX7_ofRing 127 = .ok (.iconst (-1), 1) := by decide +kernel
theorem dX7_ofRing_128 : decode cX7_ofRing 128 = .ok (.iload_n 1, 1) := by decide +kernel
theorem dX7_ofRing_129 : decode cX7_ofRing 129 = .ok (.invokestatic 127, 3) := by decide +kernel
theorem dX7_ofRing_132 : decode cX7_ofRing 132 = .ok (.ireturn, 1) := by decide +kernel
theorem dX7_ofRing_133 : decode cX7_ofRing 133 = .ok (.bipush (-2), 2) := by decide +kernel
theorem dX7_ofRing_135 : decode cX7_ofRing 135 = .ok (.ireturn, 1) := by decide +kernel
theorem dX7_ofQuarter_0 : decode cX7_ofQuarter 0 = .ok (.iload_n 1, 1) := by decide +kernel
theorem dX7_ofQuarter_1 : decode cX7_ofQuarter 1 = .ok (.invokestatic 130, 3) := by decide +kernel
theorem dX7_ofQuarter_4 : decode cX7_ofQuarter 4 = .ok (.ifCond .ne 5, 3) := by decide +kernel
theorem dX7_ofQuarter_7 : decode cX7_ofQuarter 7 = .ok (.iconst (-1), 1) := by decide +kernel
theorem dX7_ofQuarter_8 : decode cX7_ofQuarter 8 = .ok (.ireturn, 1) := by decide +kernel
theorem dX7_ofQuarter_9 : decode cX7_ofQuarter 9 = .ok (.iload_n 2, 1) := by decide +kernel
theorem dX7_ofQuarter_10 : decode cX7_ofQuarter 10 = .ok (.tableswitch 91 0 4 #[34, 46, 58, 67, 79], 34) := by decide +kernel
theorem dX7_ofQuarter_44 : decode cX7_ofQuarter 44 = .ok (.aload_n 0, 1) := by decide +kernel
theorem dX7_ofQuarter_45 : decode cX7_ofQuarter 45 = .ok (.getfield 10, 3) := by decide +kernel
theorem dX7_ofQuarter_48 : decode cX7_ofQuarter 48 = .ok (.iconst 0, 1) := by decide +kernel
theorem dX7_ofQuarter_49 : decode cX7_ofQuarter 49 = .ok (.iconst (-1), 1) := by decide +kernel
theorem dX7_ofQuarter_50 : decode cX7_ofQuarter 50 = .ok (.iload_n 1, 1) := by decide +kernel
theorem dX7_ofQuarter_51 : decode cX7_ofQuarter 51 = .ok (.iconst (-1), 1) := by decide +kernel
theorem dX7_ofQuarter_52 : decode cX7_ofQuarter 52 = .ok (.invokestatic 127, 3) := by decide +kernel
theorem dX7_ofQuarter_55 : decode cX7_ofQuarter 55 = .ok (.ireturn, 1) := by decide +kernel
theorem dX7_ofQuarter_56 : decode cX7_ofQuarter 56 = .ok (.aload_n 0, 1) := by decide +kernel
theorem dX7_ofQuarter_57 : decode cX7_ofQuarter 57 = .ok (.getfield 10, 3) := by decide +kernel
theorem dX7_ofQuarter_60 : decode cX7_ofQuarter 60 = .ok (.iconst 3, 1) := by decide +kernel
theorem dX7_ofQuarter_61 : decode cX7_ofQuarter 61 = .ok (.iconst (-1), 1) := by decide +kernel
theorem dX7_ofQuarter_62 : decode cX7_ofQuarter 62 = .ok (.iload_n 1, 1) := by decide +kernel
theorem dX7_ofQuarter_63 : decode cX7_ofQuarter 63 = .ok (.iconst (-1), 1) := by decide +kernel
theorem dX7_ofQuarter_64 : decode cX7_ofQuarter 64 = .ok (.invokestatic 127, 3) := by decide +kernel
theorem dX7_ofQuarter_67 : decode cX7_ofQuarter 67 = .ok (.ireturn, 1) := by decide +kernel
theorem dX7_ofQuarter_68 : decode cX7_ofQuarter 68 = .ok (.aload_n 0, 1) := by decide +kernel
theorem dX7_ofQuarter_69 : decode cX7_ofQuarter 69 = .ok (.getfield 10, 3) := by decide +kernel
theorem dX7_ofQuarter_72 : decode cX7_ofQuarter 72 = .ok (.iload_n 1, 1) := by decide +kernel
theorem dX7_ofQuarter_73 : decode cX7_ofQuarter 73 = .ok (.invokevirtual 133, 3) := by decide +kernel
theorem dX7_ofQuarter_76 : decode cX7_ofQuarter 76 = .ok (.ireturn, 1) := by decide +kernel
theorem dX7_ofQuarter_77 : decode cX7_ofQuarter 77 = .ok (.aload_n 0, 1) := by decide +kernel
theorem dX7_ofQuarter_78 : decode cX7_ofQuarter 78 = .ok (.getfield 10, 3) := by decide +kernel
theorem dX7_ofQuarter_81 : decode cX7_ofQuarter 81 = .ok (.iload_n 1, 1) := by decide +kernel
theorem dX7_ofQuarter_82 : decode cX7_ofQuarter 82 = .ok (.invokevirtual 136, 3) := by decide +kernel
theorem dX7_ofQuarter_85 : decode cX7_ofQuarter 85 = .ok (.invokestatic 99, 3) := by decide +kernel
theorem dX7_ofQuarter_88 : decode cX7_ofQuarter 88 = .ok (.ireturn, 1) := by decide +kernel
theorem dX7_ofQuarter_89 : decode cX7_ofQuarter 89 = .ok (.aload_n 0, 1) := by decide +kernel
theorem dX7_ofQuarter_90 : decode cX7_ofQuarter 90 = .ok (.getfield 10, 3) := by decide +kernel
theorem dX7_ofQuarter_93 : decode cX7_ofQuarter 93 = .ok (.iload_n 1, 1) := by decide +kernel
theorem dX7_ofQuarter_94 : decode cX7_ofQuarter 94 = .ok (.invokevirtual 139, 3) := by decide +kernel
theorem dX7_ofQuarter_97 : decode cX7_ofQuarter 97 = .ok (.invokestatic 99, 3) := by decide +kernel
theorem dX7_ofQuarter_100 : decode cX7_ofQuarter 100 = .ok (.ireturn, 1) := by decide +kernel
theorem dX7_ofQuarter_101 : decode cX7_ofQuarter 101 = .ok (.iload_n 2, 1) := by decide +kernel
theorem dX7_ofQuarter_102 : decode cX7_ofQuarter 102 = .ok (.iconst 4, 1) := by decide +kernel
theorem dX7_ofQuarter_103 : decode cX7_ofQuarter 103 = .ok (.isub, 1) := by decide +kernel
theorem dX7_ofQuarter_104 : decode cX7_ofQuarter 104 = .ok (.istore_n 3, 1) := by decide +kernel
theorem dX7_ofQuarter_105 : decode cX7_ofQuarter 105 = .ok (.iload_n 3, 1) := by decide +kernel
theorem dX7_ofQuarter_106 : decode cX7_ofQuarter 106 = .ok (.invokestatic 142, 3) := by decide +kernel
theorem dX7_ofQuarter_109 : decode cX7_ofQuarter 109 = .ok (.ifCond .ne 6, 3) := by decide +kernel
theorem dX7_ofQuarter_112 : decode cX7_ofQuarter 112 = .ok (.bipush (-2), 2) := by decide +kernel
theorem dX7_ofQuarter_114 : decode cX7_ofQuarter 114 = .ok (.ireturn, 1) := by decide +kernel
theorem dX7_ofQuarter_115 : decode cX7_ofQuarter 115 = .ok (.aload_n 0, 1) := by decide +kernel
theorem dX7_ofQuarter_116 : decode cX7_ofQuarter 116 = .ok (.getfield 10, 3) := by decide +kernel
theorem dX7_ofQuarter_119 : decode cX7_ofQuarter 119 = .ok (.iconst 0, 1) := by decide +kernel
theorem dX7_ofQuarter_120 : decode cX7_ofQuarter 120 = .ok (.iload_n 3, 1) := by decide +kernel
theorem dX7_ofQuarter_121 : decode cX7_ofQuarter 121 = .ok (.iload_n 1, 1) := by decide +kernel
theorem dX7_ofQuarter_122 : decode cX7_ofQuarter 122 = .ok (.iconst (-1), 1) := by decide +kernel
theorem dX7_ofQuarter_123 : decode cX7_ofQuarter 123 = .ok (.invokestatic 127, 3) := by decide +kernel
theorem dX7_ofQuarter_126 : decode cX7_ofQuarter 126 = .ok (.ireturn, 1) := by decide +kernel
theorem dX7_ofColour_0 : decode cX7_ofColour 0 = .ok (.iload_n 1, 1) := by decide +kernel
theorem dX7_ofColour_1 : decode cX7_ofColour 1 = .ok (.invokestatic 142, 3) := by decide +kernel
theorem dX7_ofColour_4 : decode cX7_ofColour 4 = .ok (.ifCond .ne 5, 3) := by decide +kernel
theorem dX7_ofColour_7 : decode cX7_ofColour 7 = .ok (.iconst (-1), 1) := by decide +kernel
theorem dX7_ofColour_8 : decode cX7_ofColour 8 = .ok (.ireturn, 1) := by decide +kernel
theorem dX7_ofColour_9 : decode cX7_ofColour 9 = .ok (.iload_n 2, 1) := by decide +kernel
theorem dX7_ofColour_10 : decode cX7_ofColour 10 = .ok (.tableswitch 88 0 4 #[34, 43, 52, 64, 76], 34) := by decide +kernel
theorem dX7_ofColour_44 : decode cX7_ofColour 44 = .ok (.aload_n 0, 1) := by decide +kernel
theorem dX7_ofColour_45 : decode cX7_ofColour 45 = .ok (.getfield 10, 3) := by decide +kernel
theorem dX7_ofColour_48 : decode cX7_ofColour 48 = .ok (.iload_n 1, 1) := by decide +kernel
theorem dX7_ofColour_49 : decode cX7_ofColour 49 = .ok (.invokevirtual 145, 3) := by decide +kernel
theorem dX7_ofColour_52 : decode cX7_ofColour 52 = .ok (.ireturn, 1) := by decide +kernel
theorem dX7_ofColour_53 : decode cX7_ofColour 53 = .ok (.aload_n 0, 1) := by decide +kernel
theorem dX7_ofColour_54 : decode cX7_ofColour 54 = .ok (.getfield 10, 3) := by decide +kernel
theorem dX7_ofColour_57 : decode cX7_ofColour 57 = .ok (.iload_n 1, 1) := by decide +kernel
theorem dX7_ofColour_58 : decode cX7_ofColour 58 = .ok (.invokevirtual 148, 3) := by decide +kernel
theorem dX7_ofColour_61 : decode cX7_ofColour 61 = .ok (.ireturn, 1) := by decide +kernel
theorem dX7_ofColour_62 : decode cX7_ofColour 62 = .ok (.aload_n 0, 1) := by decide +kernel
theorem dX7_ofColour_63 : decode cX7_ofColour 63 = .ok (.getfield 10, 3) := by decide +kernel
theorem dX7_ofColour_66 : decode cX7_ofColour 66 = .ok (.iconst 0, 1) := by decide +kernel
theorem dX7_ofColour_67 : decode cX7_ofColour 67 = .ok (.iload_n 1, 1) := by decide +kernel
theorem dX7_ofColour_68 : decode cX7_ofColour 68 = .ok (.iconst (-1), 1) := by decide +kernel
theorem dX7_ofColour_69 : decode cX7_ofColour 69 = .ok (.iconst (-1), 1) := by decide +kernel
theorem dX7_ofColour_70 : decode cX7_ofColour 70 = .ok (.invokestatic 127, 3) := by decide +kernel
theorem dX7_ofColour_73 : decode cX7_ofColour 73 = .ok (.ireturn, 1) := by decide +kernel
theorem dX7_ofColour_74 : decode cX7_ofColour 74 = .ok (.aload_n 0, 1) := by decide +kernel
theorem dX7_ofColour_75 : decode cX7_ofColour 75 = .ok (.getfield 10, 3) := by decide +kernel
theorem dX7_ofColour_78 : decode cX7_ofColour 78 = .ok (.iconst 4, 1) := by decide +kernel
theorem dX7_ofColour_79 : decode cX7_ofColour 79 = .ok (.iload_n 1, 1) := by decide +kernel
theorem dX7_ofColour_80 : decode cX7_ofColour 80 = .ok (.iconst (-1), 1) := by decide +kernel
theorem dX7_ofColour_81 : decode cX7_ofColour 81 = .ok (.iconst (-1), 1) := by decide +kernel
theorem dX7_ofColour_82 : decode cX7_ofColour 82 = .ok (.invokestatic 127, 3) := by decide +kernel
theorem dX7_ofColour_85 : decode cX7_ofColour 85 = .ok (.ireturn, 1) := by decide +kernel
theorem dX7_ofColour_86 : decode cX7_ofColour 86 = .ok (.aload_n 0, 1) := by decide +kernel
theorem dX7_ofColour_87 : decode cX7_ofColour 87 = .ok (.getfield 10, 3) := by decide +kernel
theorem dX7_ofColour_90 : decode cX7_ofColour 90 = .ok (.iconst 5, 1) := by decide +kernel
theorem dX7_ofColour_91 : decode cX7_ofColour 91 = .ok (.iload_n 1, 1) := by decide +kernel
theorem dX7_ofColour_92 : decode cX7_ofColour 92 = .ok (.iconst (-1), 1) := by decide +kernel
theorem dX7_ofColour_93 : decode cX7_ofColour 93 = .ok (.iconst (-1), 1) := by decide +kernel
theorem dX7_ofColour_94 : decode cX7_ofColour 94 = .ok (.invokestatic 127, 3) := by decide +kernel
theorem dX7_ofColour_97 : decode cX7_ofColour 97 = .ok (.ireturn, 1) := by decide +kernel
theorem dX7_ofColour_98 : decode cX7_ofColour 98 = .ok (.bipush (-2), 2) := by decide +kernel
theorem dX7_ofColour_100 : decode cX7_ofColour 100 = .ok (.ireturn, 1) := by decide +kernel
theorem dX7_count_0 : decode cX7_count 0 = .ok (.iload_n 1, 1) := by decide +kernel
theorem dX7_count_1 : decode cX7_count 1 = .ok (.tableswitch 176 0 11 #[63, 73, 83, 93, 103, 115, 123, 133, 142, 151, 160, 168], 63) := by decide +kernel
theorem dX7_count_64 : decode cX7_count 64 = .ok (.aload_n 0, 1) := by decide +kernel
theorem dX7_count_65 : decode cX7_count 65 = .ok (.getfield 10, 3) := by decide +kernel
theorem dX7_count_68 : decode cX7_count 68 = .ok (.bipush 19, 2) := by decide +kernel
theorem dX7_count_70 : decode cX7_count 70 = .ok (.invokevirtual 151, 3) := by decide +kernel
theorem dX7_count_73 : decode cX7_count 73 = .ok (.ireturn, 1) := by decide +kernel
theorem dX7_count_74 : decode cX7_count 74 = .ok (.aload_n 0, 1) := by decide +kernel
theorem dX7_count_75 : decode cX7_count 75 = .ok (.getfield 10, 3) := by decide +kernel
theorem dX7_count_78 : decode cX7_count 78 = .ok (.bipush 21, 2) := by decide +kernel
theorem dX7_count_80 : decode cX7_count 80 = .ok (.invokevirtual 151, 3) := by decide +kernel
theorem dX7_count_83 : decode cX7_count 83 = .ok (.ireturn, 1) := by decide +kernel
theorem dX7_count_84 : decode cX7_count 84 = .ok (.aload_n 0, 1) := by decide +kernel
theorem dX7_count_85 : decode cX7_count 85 = .ok (.getfield 10, 3) := by decide +kernel
theorem dX7_count_88 : decode cX7_count 88 = .ok (.bipush 22, 2) := by decide +kernel
theorem dX7_count_90 : decode cX7_count 90 = .ok (.invokevirtual 151, 3) := by decide +kernel
theorem dX7_count_93 : decode cX7_count 93 = .ok (.ireturn, 1) := by decide +kernel
theorem dX7_count_94 : decode cX7_count 94 = .ok (.aload_n 0, 1) := by decide +kernel
theorem dX7_count_95 : decode cX7_count 95 = .ok (.getfield 10, 3) := by decide +kernel
theorem dX7_count_98 : decode cX7_count 98 = .ok (.bipush 23, 2) := by decide +kernel
theorem dX7_count_100 : decode cX7_count 100 = .ok (.invokevirtual 151, 3) := by decide +kernel
theorem dX7_count_103 : decode cX7_count 103 = .ok (.ireturn, 1) := by decide +kernel
theorem dX7_count_104 : decode cX7_count 104 = .ok (.aload_n 0, 1) := by decide +kernel
theorem dX7_count_105 : decode cX7_count 105 = .ok (.getfield 10, 3) := by decide +kernel
theorem dX7_count_108 : decode cX7_count 108 = .ok (.iconst 0, 1) := by decide +kernel
theorem dX7_count_109 : decode cX7_count 109 = .ok (.iconst (-1), 1) := by decide +kernel
theorem dX7_count_110 : decode cX7_count 110 = .ok (.iconst (-1), 1) := by decide +kernel
theorem dX7_count_111 : decode cX7_count 111 = .ok (.iconst (-1), 1) := by decide +kernel
theorem dX7_count_112 : decode cX7_count 112 = .ok (.invokestatic 127, 3) := by decide +kernel
theorem dX7_count_115 : decode cX7_count 115 = .ok (.ireturn, 1) := by decide +kernel
theorem dX7_count_116 : decode cX7_count 116 = .ok (.aload_n 0, 1) := by decide +kernel
theorem dX7_count_117 : decode cX7_count 117 = .ok (.getfield 10, 3) := by decide +kernel
theorem dX7_count_120 : decode cX7_count 120 = .ok (.invokestatic 154, 3) := by decide +kernel
theorem dX7_count_123 : decode cX7_count 123 = .ok (.ireturn, 1) := by decide +kernel
theorem dX7_count_124 : decode cX7_count 124 = .ok (.aload_n 0, 1) := by decide +kernel
theorem dX7_count_125 : decode cX7_count 125 = .ok (.getfield 10, 3) := by decide +kernel
theorem dX7_count_128 : decode cX7_count 128 = .ok (.bipush 20, 2) := by decide +kernel
theorem dX7_count_130 : decode cX7_count 130 = .ok (.invokevirtual 151, 3) := by decide +kernel
theorem dX7_count_133 : decode cX7_count 133 = .ok (.ireturn, 1) := by decide +kernel
theorem dX7_count_134 : decode cX7_count 134 = .ok (.aload_n 0, 1) := by decide +kernel
theorem dX7_count_135 : decode cX7_count 135 = .ok (.getfield 10, 3) := by decide +kernel
theorem dX7_count_138 : decode cX7_count 138 = .ok (.iconst 0, 1) := by decide +kernel
theorem dX7_count_139 : decode cX7_count 139 = .ok (.invokevirtual 157, 3) := by decide +kernel
theorem dX7_count_142 : decode cX7_count 142 = .ok (.ireturn, 1) := by decide +kernel
theorem dX7_count_143 : decode cX7_count 143 = .ok (.aload_n 0, 1) := by decide +kernel
theorem dX7_count_144 : decode cX7_count 144 = .ok (.getfield 10, 3) := by decide +kernel
theorem dX7_count_147 : decode cX7_count 147 = .ok (.iconst 1, 1) := by decide +kernel
theorem dX7_count_148 : decode cX7_count 148 = .ok (.invokevirtual 157, 3) := by decide +kernel
theorem dX7_count_151 : decode cX7_count 151 = .ok (.ireturn, 1) := by decide +kernel
theorem dX7_count_152 : decode cX7_count 152 = .ok (.aload_n 0, 1) := by decide +kernel
theorem dX7_count_153 : decode cX7_count 153 = .ok (.getfield 10, 3) := by decide +kernel
theorem dX7_count_156 : decode cX7_count 156 = .ok (.iconst 2, 1) := by decide +kernel
theorem dX7_count_157 : decode cX7_count 157 = .ok (.invokevirtual 157, 3) := by decide +kernel
theorem dX7_count_160 : decode cX7_count 160 = .ok (.ireturn, 1) := by decide +kernel
theorem dX7_count_161 : decode cX7_count 161 = .ok (.aload_n 0, 1) := by decide +kernel
theorem dX7_count_162 : decode cX7_count 162 = .ok (.getfield 36, 3) := by decide +kernel
theorem dX7_count_165 : decode cX7_count 165 = .ok (.invokevirtual 160, 3) := by decide +kernel
theorem dX7_count_168 : decode cX7_count 168 = .ok (.ireturn, 1) := by decide +kernel
theorem dX7_count_169 : decode cX7_count 169 = .ok (.aload_n 0, 1) := by decide +kernel
theorem dX7_count_170 : decode cX7_count 170 = .ok (.getfield 29, 3) := by decide +kernel
theorem dX7_count_173 : decode cX7_count 173 = .ok (.invokevirtual 164, 3) := by decide +kernel
theorem dX7_count_176 : decode cX7_count 176 = .ok (.ireturn, 1) := by decide +kernel
theorem dX7_count_177 : decode cX7_count 177 = .ok (.bipush (-2), 2) := by decide +kernel
theorem dX7_count_179 : decode cX7_count 179 = .ok (.ireturn, 1) := by decide +kernel
theorem dX7_needed_0 : decode cX7_needed 0 = .ok (.iload_n 1, 1) := by decide +kernel
theorem dX7_needed_1 : decode cX7_needed 1 = .ok (.ifCond .lt 8, 3) := by decide +kernel
theorem dX7_needed_4 : decode cX7_needed 4 = .ok (.iload_n 1, 1) := by decide +kernel
theorem dX7_needed_5 : decode cX7_needed 5 = .ok (.iconst 4, 1) := by decide +kernel
theorem dX7_needed_6 : decode cX7_needed 6 = .ok (.if_icmp .le 6, 3) := by decide +kernel
theorem dX7_needed_9 : decode cX7_needed 9 = .ok (.bipush (-2), 2) := by decide +kernel
theorem dX7_needed_11 : decode cX7_needed 11 = .ok (.ireturn, 1) := by decide +kernel
theorem dX7_needed_12 : decode cX7_needed 12 = .ok (.aload_n 0, 1) := by decide +kernel
theorem dX7_needed_13 : decode cX7_needed 13 = .ok (.getfield 10, 3) := by decide +kernel
theorem dX7_needed_16 : decode cX7_needed 16 = .ok (.invokestatic 167, 3) := by decide +kernel
theorem dX7_needed_19 : decode cX7_needed 19 = .ok (.istore_n 2, 1) := by decide +kernel
theorem dX7_needed_20 : decode cX7_needed 20 = .ok (.iload_n 2, 1) := by decide +kernel
theorem dX7_needed_21 : decode cX7_needed 21 = .ok (.bipush (-6), 2) := by decide +kernel
theorem dX7_needed_23 : decode cX7_needed 23 = .ok (.if_icmp .ne 6, 3) := by decide +kernel
theorem dX7_needed_26 : decode cX7_needed 26 = .ok (.bipush (-6), 2) := by decide +kernel
theorem dX7_needed_28 : decode cX7_needed 28 = .ok (.ireturn, 1) := by decide +kernel
theorem dX7_needed_29 : decode cX7_needed 29 = .ok (.iload_n 2, 1) := by decide +kernel
theorem dX7_needed_30 : decode cX7_needed 30 = .ok (.bipush 8, 2) := by decide +kernel
theorem dX7_needed_32 : decode cX7_needed 32 = .ok (.idiv, 1) := by decide +kernel
theorem dX7_needed_33 : decode cX7_needed 33 = .ok (.iconst 4, 1) := by decide +kernel
theorem dX7_needed_34 : decode cX7_needed 34 = .ok (.irem, 1) := by decide +kernel
theorem dX7_needed_35 : decode cX7_needed 35 = .ok (.istore_n 3, 1) := by decide +kernel
theorem dX7_needed_36 : decode cX7_needed 36 = .ok (.iload_n 2, 1) := by decide +kernel
theorem dX7_needed_37 : decode cX7_needed 37 = .ok (.bipush 8, 2) := by decide +kernel
theorem dX7_needed_39 : decode cX7_needed 39 = .ok (.idiv, 1) := by decide +kernel
theorem dX7_needed_40 : decode cX7_needed 40 = .ok (.iconst 4, 1) := by decide +kernel
theorem dX7_needed_41 : decode cX7_needed 41 = .ok (.idiv, 1) := by decide +kernel
theorem dX7_needed_42 : decode cX7_needed 42 = .ok (.istore 4, 2) := by decide +kernel
theorem dX7_needed_44 : decode cX7_needed 44 = .ok (.iload_n 2, 1) := by decide +kernel
theorem dX7_needed_45 : decode cX7_needed 45 = .ok (.bipush 8, 2) := by decide +kernel
theorem dX7_needed_47 : decode cX7_needed 47 = .ok (.irem, 1) := by decide +kernel
theorem dX7_needed_48 : decode cX7_needed 48 = .ok (.istore 5, 2) := by decide +kernel
theorem dX7_needed_50 : decode cX7_needed 50 = .ok (.iload_n 1, 1) := by decide +kernel
theorem dX7_needed_51 : decode cX7_needed 51 = .ok (.tableswitch 50 0 3 #[29, 31, 34, 37], 29) := by decide +kernel
theorem dX7_needed_80 : decode cX7_needed 80 = .ok (.iload_n 3, 1) := by decide +kernel
theorem dX7_needed_81 : decode cX7_needed 81 = .ok (.ireturn, 1) := by decide +kernel
theorem dX7_needed_82 : decode cX7_needed 82 = .ok (.iload 4, 2) := by decide +kernel
theorem dX7_needed_84 : decode cX7_needed 84 = .ok (.ireturn, 1) := by decide +kernel
theorem dX7_needed_85 : decode cX7_needed 85 = .ok (.iload 5, 2) := by decide +kernel
theorem dX7_needed_87 : decode cX7_needed 87 = .ok (.ireturn, 1) := by decide +kernel
theorem dX7_needed_88 : decode cX7_needed 88 = .ok (.aload_n 0, 1) := by decide +kernel
theorem dX7_needed_89 : decode cX7_needed 89 = .ok (.getfield 10, 3) := by decide +kernel
theorem dX7_needed_92 : decode cX7_needed 92 = .ok (.iload_n 3, 1) := by decide +kernel
theorem dX7_needed_93 : decode cX7_needed 93 = .ok (.iload 4, 2) := by decide +kernel
theorem dX7_needed_95 : decode cX7_needed 95 = .ok (.iload 5, 2) := by decide +kernel
theorem dX7_needed_97 : decode cX7_needed 97 = .ok (.invokevirtual 93, 3) := by decide +kernel
theorem dX7_needed_100 : decode cX7_needed 100 = .ok (.ireturn, 1) := by decide +kernel
theorem dX7_needed_101 : decode cX7_needed 101 = .ok (.aload_n 0, 1) := by decide +kernel
theorem dX7_needed_102 : decode cX7_needed 102 = .ok (.getfield 10, 3) := by decide +kernel
theorem dX7_needed_105 : decode cX7_needed 105 = .ok (.iload_n 3, 1) := by decide +kernel
theorem dX7_needed_106 : decode cX7_needed 106 = .ok (.iload 4, 2) := by decide +kernel
theorem dX7_needed_108 : decode cX7_needed 108 = .ok (.iload 5, 2) := by decide +kernel
theorem dX7_needed_110 : decode cX7_needed 110 = .ok (.invokevirtual 170, 3) := by decide +kernel
theorem dX7_needed_113 : decode cX7_needed 113 = .ok (.ireturn, 1) := by decide +kernel
theorem dX7_lacking_0 : decode cX7_lacking 0 = .ok (.iconst 0, 1) := by decide +kernel
theorem dX7_lacking_1 : decode cX7_lacking 1 = .ok (.istore_n 1, 1) := by decide +kernel
theorem dX7_lacking_2 : decode cX7_lacking 2 = .ok (.iconst 1, 1) := by decide +kernel
theorem dX7_lacking_3 : decode cX7_lacking 3 = .ok (.istore_n 2, 1) := by decide +kernel
theorem dX7_lacking_4 : decode cX7_lacking 4 = .ok (.iload_n 2, 1) := by decide +kernel
theorem dX7_lacking_5 : decode cX7_lacking 5 = .ok (.bipush 6, 2) := by decide +kernel
theorem dX7_lacking_7 : decode cX7_lacking 7 = .ok (.if_icmp .gt 39, 3) := by decide +kernel
theorem dX7_lacking_10 : decode cX7_lacking 10 = .ok (.aload_n 0, 1) := by decide +kernel
theorem dX7_lacking_11 : decode cX7_lacking 11 = .ok (.getfield 10, 3) := by decide +kernel
theorem dX7_lacking_14 : decode cX7_lacking 14 = .ok (.iconst 5, 1) := by decide +kernel
theorem dX7_lacking_15 : decode cX7_lacking 15 = .ok (.iload_n 2, 1) := by decide +kernel
theorem dX7_lacking_16 : decode cX7_lacking 16 = .ok (.iconst (-1), 1) := by decide +kernel
theorem dX7_lacking_17 : decode cX7_lacking 17 = .ok (.iconst (-1), 1) := by decide +kernel
theorem dX7_lacking_18 : decode cX7_lacking 18 = .ok (.invokestatic 127, 3) := by decide +kernel
theorem dX7_lacking_21 : decode cX7_lacking 21 = .ok (.istore_n 3, 1) := by decide +kernel
theorem dX7_lacking_22 : decode cX7_lacking 22 = .ok (.iload_n 3, 1) := by decide +kernel
theorem dX7_lacking_23 : decode cX7_lacking 23 = .ok (.aload_n 0, 1) := by decide +kernel
theorem dX7_lacking_24 : decode cX7_lacking 24 = .ok (.getfield 10, 3) := by decide +kernel
theorem dX7_lacking_27 : decode cX7_lacking 27 = .ok (.iload_n 2, 1) := by decide +kernel
theorem dX7_lacking_28 : decode cX7_lacking 28 = .ok (.invokevirtual 145, 3) := by decide +kernel
theorem dX7_lacking_31 : decode cX7_lacking 31 = .ok (.if_icmp .le 9, 3) := by decide +kernel
theorem dX7_lacking_34 : decode cX7_lacking 34 = .ok (.iload_n 1, 1) := by decide +kernel
theorem dX7_lacking_35 : decode cX7_lacking 35 = .ok (.iconst 1, 1) := by decide +kernel
theorem dX7_lacking_36 : decode cX7_lacking 36 = .ok (.iload_n 2, 1) := by decide +kernel
theorem dX7_lacking_37 : decode cX7_lacking 37 = .ok (.ishl, 1) := by decide +kernel
theorem dX7_lacking_38 : decode cX7_lacking 38 = .ok (.ior, 1) := by decide +kernel
theorem dX7_lacking_39 : decode cX7_lacking 39 = .ok (.istore_n 1, 1) := by decide +kernel
theorem dX7_lacking_40 : decode cX7_lacking 40 = .ok (.iinc 2 1, 3) := by decide +kernel
theorem dX7_lacking_43 : decode cX7_lacking 43 = .ok (.goto (-39), 3) := by decide +kernel
theorem dX7_lacking_46 : decode cX7_lacking 46 = .ok (.iload_n 1, 1) := by decide +kernel
theorem dX7_lacking_47 : decode cX7_lacking 47 = .ok (.ireturn, 1) := by decide +kernel
theorem dX7_ifBreathed_0 : decode cX7_ifBreathed 0 = .ok (.iload_n 1, 1) := by decide +kernel
theorem dX7_ifBreathed_1 : decode cX7_ifBreathed 1 = .ok (.invokestatic 130, 3) := by decide +kernel
theorem dX7_ifBreathed_4 : decode cX7_ifBreathed 4 = .ok (.ifCond .ne 5, 3) := by decide +kernel
theorem dX7_ifBreathed_7 : decode cX7_ifBreathed 7 = .ok (.iconst (-1), 1) := by decide +kernel
theorem dX7_ifBreathed_8 : decode cX7_ifBreathed 8 = .ok (.ireturn, 1) := by decide +kernel
theorem dX7_ifBreathed_9 : decode cX7_ifBreathed 9 = .ok (.iload_n 2, 1) := by decide +kernel
theorem dX7_ifBreathed_10 : decode cX7_ifBreathed 10 = .ok (.invokestatic 173, 3) := by decide +kernel
theorem dX7_ifBreathed_13 : decode cX7_ifBreathed 13 = .ok (.ifCond .eq 12, 3) := by decide +kernel
theorem dX7_ifBreathed_16 : decode cX7_ifBreathed 16 = .ok (.iload_n 3, 1) := by decide +kernel
theorem dX7_ifBreathed_17 : decode cX7_ifBreathed 17 = .ok (.ifCond .lt 8, 3) := by decide +kernel
theorem dX7_ifBreathed_20 : decode cX7_ifBreathed 20 = .ok (.iload_n 3, 1) := by decide +kernel
theorem dX7_ifBreathed_21 : decode cX7_ifBreathed 21 = .ok (.iconst 2, 1) := by decide +kernel
theorem dX7_ifBreathed_22 : decode cX7_ifBreathed 22 = .ok (.if_icmp .le 6, 3) := by decide +kernel
theorem dX7_ifBreathed_25 : decode cX7_ifBreathed 25 = .ok (.bipush (-2), 2) := by decide +kernel
theorem dX7_ifBreathed_27 : decode cX7_ifBreathed 27 = .ok (.ireturn, 1) := by decide +kernel
theorem dX7_ifBreathed_28 : decode cX7_ifBreathed 28 = .ok (.aload_n 0, 1) := by decide +kernel
theorem dX7_ifBreathed_29 : decode cX7_ifBreathed 29 = .ok (.getfield 16, 3) := by decide +kernel
theorem dX7_ifBreathed_32 : decode cX7_ifBreathed 32 = .ok (.aload_n 0, 1) := by decide +kernel
theorem dX7_ifBreathed_33 : decode cX7_ifBreathed 33 = .ok (.getfield 10, 3) := by decide +kernel
theorem dX7_ifBreathed_36 : decode cX7_ifBreathed 36 = .ok (.invokevirtual 176, 3) := by decide +kernel
theorem dX7_ifBreathed_39 : decode cX7_ifBreathed 39 = .ok (.aload_n 0, 1) := by decide +kernel
theorem dX7_ifBreathed_40 : decode cX7_ifBreathed 40 = .ok (.getfield 22, 3) := by decide +kernel
theorem dX7_ifBreathed_43 : decode cX7_ifBreathed 43 = .ok (.aload_n 0, 1) := by decide +kernel
theorem dX7_ifBreathed_44 : decode cX7_ifBreathed 44 = .ok (.getfield 16, 3) := by decide +kernel
theorem dX7_ifBreathed_47 : decode cX7_ifBreathed 47 = .ok (.iload_n 1, 1) := by decide +kernel
theorem dX7_ifBreathed_48 : decode cX7_ifBreathed 48 = .ok (.iload_n 2, 1) := by decide +kernel
theorem dX7_ifBreathed_49 : decode cX7_ifBreathed 49 = .ok (.invokevirtual 179, 3) := by decide +kernel
theorem dX7_ifBreathed_52 : decode cX7_ifBreathed 52 = .ok (.istore 4, 2) := by decide +kernel
theorem dX7_ifBreathed_54 : decode cX7_ifBreathed 54 = .ok (.iload_n 3, 1) := by decide +kernel
theorem dX7_ifBreathed_55 : decode cX7_ifBreathed 55 = .ok (.lookupswitch 41 #[(0, 25), (1, 28)], 25) := by decide +kernel
theorem dX7_ifBreathed_80 : decode cX7_ifBreathed 80 = .ok (.iload 4, 2) := by decide +kernel
theorem dX7_ifBreathed_82 : decode cX7_ifBreathed 82 = .ok (.ireturn, 1) := by decide +kernel
theorem dX7_ifBreathed_83 : decode cX7_ifBreathed 83 = .ok (.aload_n 0, 1) := by decide +kernel
theorem dX7_ifBreathed_84 : decode cX7_ifBreathed 84 = .ok (.getfield 10, 3) := by decide +kernel
theorem dX7_ifBreathed_87 : decode cX7_ifBreathed 87 = .ok (.aload_n 0, 1) := by decide +kernel
theorem dX7_ifBreathed_88 : decode cX7_ifBreathed 88 = .ok (.getfield 16, 3) := by decide +kernel
theorem dX7_ifBreathed_91 : decode cX7_ifBreathed 91 = .ok (.iload_n 1, 1) := by decide +kernel
theorem dX7_ifBreathed_92 : decode cX7_ifBreathed 92 = .ok (.invokestatic 182, 3) := by decide +kernel
theorem dX7_ifBreathed_95 : decode cX7_ifBreathed 95 = .ok (.ireturn, 1) := by decide +kernel
theorem dX7_ifBreathed_96 : decode cX7_ifBreathed 96 = .ok (.aload_n 0, 1) := by decide +kernel
theorem dX7_ifBreathed_97 : decode cX7_ifBreathed 97 = .ok (.getfield 16, 3) := by decide +kernel
theorem dX7_ifBreathed_100 : decode cX7_ifBreathed 100 = .ok (.aload_n 0, 1) := by decide +kernel
theorem dX7_ifBreathed_101 : decode cX7_ifBreathed 101 = .ok (.getfield 10, 3) := by decide +kernel
theorem dX7_ifBreathed_104 : decode cX7_ifBreathed 104 = .ok (.iload_n 1, 1) := by decide +kernel
theorem dX7_ifBreathed_105 : decode cX7_ifBreathed 105 = .ok (.invokestatic 182, 3) := by decide +kernel
theorem dX7_ifBreathed_108 : decode cX7_ifBreathed 108 = .ok (.ireturn, 1) := by decide +kernel
theorem dX7_settles_0 : decode cX7_settles 0 = .ok (.iload_n 1, 1) := by decide +kernel
theorem dX7_settles_1 : decode cX7_settles 1 = .ok (.invokestatic 130, 3) := by decide +kernel
theorem dX7_settles_4 : decode cX7_settles 4 = .ok (.ifCond .ne 5, 3) := by decide +kernel
theorem dX7_settles_7 : decode cX7_settles 7 = .ok (.iconst (-1), 1) := by decide +kernel
theorem dX7_settles_8 : decode cX7_settles 8 = .ok (.ireturn, 1) := by decide +kernel
theorem dX7_settles_9 : decode cX7_settles 9 = .ok (.iload_n 2, 1) := by decide +kernel
theorem dX7_settles_10 : decode cX7_settles 10 = .ok (.invokestatic 173, 3) := by decide +kernel
theorem dX7_settles_13 : decode cX7_settles 13 = .ok (.ifCond .ne 6, 3) := by decide +kernel
theorem dX7_settles_16 : decode cX7_settles 16 = .ok (.bipush (-2), 2) := by decide +kernel
theorem dX7_settles_18 : decode cX7_settles 18 = .ok (.ireturn, 1) := by decide +kernel
theorem dX7_settles_19 : decode cX7_settles 19 = .ok (.aload_n 0, 1) := by decide +kernel
theorem dX7_settles_20 : decode cX7_settles 20 = .ok (.getfield 16, 3) := by decide +kernel
theorem dX7_settles_23 : decode cX7_settles 23 = .ok (.aload_n 0, 1) := by decide +kernel
theorem dX7_settles_24 : decode cX7_settles 24 = .ok (.getfield 10, 3) := by decide +kernel
theorem dX7_settles_27 : decode cX7_settles 27 = .ok (.invokevirtual 176, 3) := by decide +kernel
theorem dX7_settles_30 : decode cX7_settles 30 = .ok (.iconst 0, 1) := by decide +kernel
theorem dX7_settles_31 : decode cX7_settles 31 = .ok (.istore_n 3, 1) := by decide +kernel
theorem dX7_settles_32 : decode cX7_settles 32 = .ok (.iload_n 3, 1) := by decide +kernel
theorem dX7_settles_33 : decode cX7_settles 33 = .ok (.sipush 200, 3) := by decide +kernel
theorem dX7_settles_36 : decode cX7_settles 36 = .ok (.if_icmp .gt 35, 3) := by decide +kernel
theorem dX7_settles_39 : decode cX7_settles 39 = .ok (.aload_n 0, 1) := by decide +kernel
theorem dX7_settles_40 : decode cX7_settles 40 = .ok (.getfield 22, 3) := by decide +kernel
theorem dX7_settles_43 : decode cX7_settles 43 = .ok (.aload_n 0, 1) := by decide +kernel
theorem dX7_settles_44 : decode cX7_settles 44 = .ok (.getfield 16, 3) := by decide +kernel
theorem dX7_settles_47 : decode cX7_settles 47 = .ok (.iload_n 1, 1) := by decide +kernel
theorem dX7_settles_48 : decode cX7_settles 48 = .ok (.iload_n 2, 1) := by decide +kernel
theorem dX7_settles_49 : decode cX7_settles 49 = .ok (.invokevirtual 179, 3) := by decide +kernel
theorem dX7_settles_52 : decode cX7_settles 52 = .ok (.pop, 1) := by decide +kernel
theorem dX7_settles_53 : decode cX7_settles 53 = .ok (.aload_n 0, 1) := by decide +kernel
theorem dX7_settles_54 : decode cX7_settles 54 = .ok (.getfield 22, 3) := by decide +kernel
theorem dX7_settles_57 : decode cX7_settles 57 = .ok (.invokevirtual 186, 3) := by decide +kernel
theorem dX7_settles_60 : decode cX7_settles 60 = .ok (.ifCond .ne 5, 3) := by decide +kernel
theorem dX7_settles_63 : decode cX7_settles 63 = .ok (.iload_n 3, 1) := by decide +kernel
theorem dX7_settles_64 : decode cX7_settles 64 = .ok (.ireturn, 1) := by decide +kernel
theorem dX7_settles_65 : decode cX7_settles 65 = .ok (.iinc 3 1, 3) := by decide +kernel
theorem dX7_settles_68 : decode cX7_settles 68 = .ok (.goto (-36), 3) := by decide +kernel
theorem dX7_settles_71 : decode cX7_settles 71 = .ok (.bipush (-6), 2) := by decide +kernel
theorem dX7_settles_73 : decode cX7_settles 73 = .ok (.ireturn, 1) := by decide +kernel
theorem dX7_best_0 : decode cX7_best 0 = .ok (.iconst 0, 1) := by decide +kernel
theorem dX7_best_1 : decode cX7_best 1 = .ok (.istore_n 1, 1) := by decide +kernel
theorem dX7_best_2 : decode cX7_best 2 = .ok (.iconst 0, 1) := by decide +kernel
theorem dX7_best_3 : decode cX7_best 3 = .ok (.istore_n 2, 1) := by decide +kernel
theorem dX7_best_4 : decode cX7_best 4 = .ok (.iconst 0, 1) := by decide +kernel
theorem dX7_best_5 : decode cX7_best 5 = .ok (.istore_n 3, 1) := by decide +kernel
theorem dX7_best_6 : decode cX7_best 6 = .ok (.iload_n 3, 1) := by decide +kernel
theorem dX7_best_7 : decode cX7_best 7 = .ok (.iconst 4, 1) := by decide +kernel
theorem dX7_best_8 : decode cX7_best 8 = .ok (.if_icmp .ge 33, 3) := by decide +kernel
theorem dX7_best_11 : decode cX7_best 11 = .ok (.aload_n 0, 1) := by decide +kernel
theorem dX7_best_12 : decode cX7_best 12 = .ok (.getfield 10, 3) := by decide +kernel
theorem dX7_best_15 : decode cX7_best 15 = .ok (.iconst 1, 1) := by decide +kernel
theorem dX7_best_16 : decode cX7_best 16 = .ok (.iconst (-1), 1) := by decide +kernel
theorem dX7_best_17 : decode cX7_best 17 = .ok (.iload_n 3, 1) := by decide +kernel
theorem dX7_best_18 : decode cX7_best 18 = .ok (.iconst (-1), 1) := by decide +kernel
theorem dX7_best_19 : decode cX7_best 19 = .ok (.invokestatic 127, 3) := by decide +kernel
theorem dX7_best_22 : decode cX7_best 22 = .ok (.istore 4, 2) := by decide +kernel
theorem dX7_best_24 : decode cX7_best 24 = .ok (.iload 4, 2) := by decide +kernel
theorem dX7_best_26 : decode cX7_best 26 = .ok (.iload_n 2, 1) := by decide +kernel
theorem dX7_best_27 : decode cX7_best 27 = .ok (.if_icmp .le 8, 3) := by decide +kernel
theorem dX7_best_30 : decode cX7_best 30 = .ok (.iload 4, 2) := by decide +kernel
theorem dX7_best_32 : decode cX7_best 32 = .ok (.istore_n 2, 1) := by decide +kernel
theorem dX7_best_33 : decode cX7_best 33 = .ok (.iload_n 3, 1) := by decide +kernel
theorem dX7_best_34 : decode cX7_best 34 = .ok (.istore_n 1, 1) := by decide +kernel
theorem dX7_best_35 : decode cX7_best 35 = .ok (.iinc 3 1, 3) := by decide +kernel
theorem dX7_best_38 : decode cX7_best 38 = .ok (.goto (-32), 3) := by decide +kernel
theorem dX7_best_41 : decode cX7_best 41 = .ok (.iload_n 1, 1) := by decide +kernel
theorem dX7_best_42 : decode cX7_best 42 = .ok (.ireturn, 1) := by decide +kernel
theorem dX7_put_0 : decode cX7_put 0 = .ok (.aload_n 0, 1) := by decide +kernel
theorem dX7_put_1 : decode cX7_put 1 = .ok (.getfield 36, 3) := by decide +kernel
theorem dX7_put_4 : decode cX7_put 4 = .ok (.lload_n 1, 1) := by decide +kernel
theorem dX7_put_5 : decode cX7_put 5 = .ok (.invokevirtual 190, 3) := by decide +kernel
theorem dX7_put_8 : decode cX7_put 8 = .ok (.ireturn, 1) := by decide +kernel
theorem dX7_wipe_0 : decode cX7_wipe 0 = .ok (.aload_n 0, 1) := by decide +kernel
theorem dX7_wipe_1 : decode cX7_wipe 1 = .ok (.getfield 36, 3) := by decide +kernel
theorem dX7_wipe_4 : decode cX7_wipe 4 = .ok (.invokevirtual 160, 3) := by decide +kernel
theorem dX7_wipe_7 : decode cX7_wipe 7 = .ok (.istore_n 1, 1) := by decide +kernel
theorem dX7_wipe_8 : decode cX7_wipe 8 = .ok (.aload_n 0, 1) := by decide +kernel
theorem dX7_wipe_9 : decode cX7_wipe 9 = .ok (.getfield 36, 3) := by decide +kernel
theorem dX7_wipe_12 : decode cX7_wipe 12 = .ok (.invokevirtual 194, 3) := by decide +kernel
theorem dX7_wipe_15 : decode cX7_wipe 15 = .ok (.iload_n 1, 1) := by decide +kernel
theorem dX7_wipe_16 : decode cX7_wipe 16 = .ok (.ireturn, 1) := by decide +kernel
theorem dX7_fault_0 : decode cX7_fault 0 = .ok (.aload_n 0, 1) := by decide +kernel
theorem dX7_fault_1 : decode cX7_fault 1 = .ok (.getfield 36, 3) := by decide +kernel
theorem dX7_fault_4 : decode cX7_fault 4 = .ok (.invokestatic 197, 3) := by decide +kernel
theorem dX7_fault_7 : decode cX7_fault 7 = .ok (.ireturn, 1) := by decide +kernel
theorem dX7_carryOut_0 : decode cX7_carryOut 0 = .ok (.aload_n 0, 1) := by decide +kernel
theorem dX7_carryOut_1 : decode cX7_carryOut 1 = .ok (.getfield 36, 3) := by decide +kernel
theorem dX7_carryOut_4 : decode cX7_carryOut 4 = .ok (.invokestatic 197, 3) := by decide +kernel
theorem dX7_carryOut_7 : decode cX7_carryOut 7 = .ok (.bipush (-6), 2) := by decide +kernel
theorem dX7_carryOut_9 : decode cX7_carryOut 9 = .ok (.if_icmp .eq 6, 3) := by decide +kernel
theorem dX7_carryOut_12 : decode cX7_carryOut 12 = .ok (.bipush (-3), 2) := by decide +kernel
theorem dX7_carryOut_14 : decode cX7_carryOut 14 = .ok (.ireturn, 1) := by decide +kernel
theorem dX7_carryOut_15 : decode cX7_carryOut 15 = .ok (.aload_n 0, 1) := by decide +kernel
theorem dX7_carryOut_16 : decode cX7_carryOut 16 = .ok (.getfield 29, 3) := by decide +kernel
theorem dX7_carryOut_19 : decode cX7_carryOut 19 = .ok (.aload_n 0, 1) := by decide +kernel
theorem dX7_carryOut_20 : decode cX7_carryOut 20 = .ok (.getfield 10, 3) := by decide +kernel
theorem dX7_carryOut_23 : decode cX7_carryOut 23 = .ok (.invokevirtual 40, 3) := by decide +kernel
theorem dX7_carryOut_26 : decode cX7_carryOut 26 = .ok (.iconst 0, 1) := by decide +kernel
theorem dX7_carryOut_27 : decode cX7_carryOut 27 = .ok (.istore_n 1, 1) := by decide +kernel
theorem dX7_carryOut_28 : decode cX7_carryOut 28 = .ok (.iconst 1, 1) := by decide +kernel
theorem dX7_carryOut_29 : decode cX7_carryOut 29 = .ok (.istore_n 2, 1) := by decide +kernel
theorem dX7_carryOut_30 : decode cX7_carryOut 30 = .ok (.iconst 0, 1) := by decide +kernel
theorem dX7_carryOut_31 : decode cX7_carryOut 31 = .ok (.istore_n 3, 1) := by decide +kernel
theorem dX7_carryOut_32 : decode cX7_carryOut 32 = .ok (.iload_n 3, 1) := by decide +kernel
theorem dX7_carryOut_33 : decode cX7_carryOut 33 = .ok (.aload_n 0, 1) := by decide +kernel
theorem dX7_carryOut_34 : decode cX7_carryOut 34 = .ok (.getfield 36, 3) := by decide +kernel
theorem dX7_carryOut_37 : decode cX7_carryOut 37 = .ok (.invokevirtual 160, 3) := by decide +kernel
theorem dX7_carryOut_40 : decode cX7_carryOut 40 = .ok (.if_icmp .ge 59, 3) := by decide +kernel
theorem dX7_carryOut_43 : decode cX7_carryOut 43 = .ok (.iload_n 2, 1) := by decide +kernel
theorem dX7_carryOut_44 : decode cX7_carryOut 44 = .ok (.ifCond .eq 55, 3) := by decide +kernel
theorem dX7_carryOut_47 : decode cX7_carryOut 47 = .ok (.aload_n 0, 1) := by decide +kernel
theorem dX7_carryOut_48 : decode cX7_carryOut 48 = .ok (.getfield 36, 3) := by decide +kernel
theorem dX7_carryOut_51 : decode cX7_carryOut 51 = .ok (.iload_n 3, 1) := by decide +kernel
theorem dX7_carryOut_52 : decode cX7_carryOut 52 = .ok (.invokestatic 203, 3) := by decide +kernel
theorem dX7_carryOut_55 : decode cX7_carryOut 55 = .ok (.ifCond .ne 6, 3) := by decide +kernel
theorem dX7_carryOut_58 : decode cX7_carryOut 58 = .ok (.goto 35, 3) := by decide +kernel
theorem dX7_carryOut_61 : decode cX7_carryOut 61 = .ok (.aload_n 0, 1) := by decide +kernel
theorem dX7_carryOut_62 : decode cX7_carryOut 62 = .ok (.getfield 36, 3) := by decide +kernel
theorem dX7_carryOut_65 : decode cX7_carryOut 65 = .ok (.iload_n 3, 1) := by decide +kernel
theorem dX7_carryOut_66 : decode cX7_carryOut 66 = .ok (.aload_n 0, 1) := by decide +kernel
theorem dX7_carryOut_67 : decode cX7_carryOut 67 = .ok (.getfield 10, 3) := by decide +kernel
theorem dX7_carryOut_70 : decode cX7_carryOut 70 = .ok (.aload_n 0, 1) := by decide +kernel
theorem dX7_carryOut_71 : decode cX7_carryOut 71 = .ok (.getfield 22, 3) := by decide +kernel
theorem dX7_carryOut_74 : decode cX7_carryOut 74 = .ok (.invokestatic 207, 3) := by decide +kernel
theorem dX7_carryOut_77 : decode cX7_carryOut 77 = .ok (.ifCond .lt 7, 3) := by decide +kernel
theorem dX7_carryOut_80 : decode cX7_carryOut 80 = .ok (.iconst 1, 1) := by decide +kernel
theorem dX7_carryOut_81 : decode cX7_carryOut 81 = .ok (.goto 4, 3) := by decide +kernel
theorem dX7_carryOut_84 : decode cX7_carryOut 84 = .ok (.iconst 0, 1) := by decide +kernel
theorem dX7_carryOut_85 : decode cX7_carryOut 85 = .ok (.istore_n 2, 1) := by decide +kernel
theorem dX7_carryOut_86 : decode cX7_carryOut 86 = .ok (.iload_n 2, 1) := by decide +kernel
theorem dX7_carryOut_87 : decode cX7_carryOut 87 = .ok (.ifCond .eq 6, 3) := by decide +kernel
theorem dX7_carryOut_90 : decode cX7_carryOut 90 = .ok (.iinc 1 1, 3) := by decide +kernel
theorem dX7_carryOut_93 : decode cX7_carryOut 93 = .ok (.iinc 3 1, 3) := by decide +kernel
theorem dX7_carryOut_96 : decode cX7_carryOut 96 = .ok (.goto (-64), 3) := by decide +kernel
theorem dX7_carryOut_99 : decode cX7_carryOut 99 = .ok (.aload_n 0, 1) := by decide +kernel
theorem dX7_carryOut_100 : decode cX7_carryOut 100 = .ok (.getfield 36, 3) := by decide +kernel
theorem dX7_carryOut_103 : decode cX7_carryOut 103 = .ok (.invokevirtual 194, 3) := by decide +kernel
theorem dX7_carryOut_106 : decode cX7_carryOut 106 = .ok (.aload_n 0, 1) := by decide +kernel
theorem dX7_carryOut_107 : decode cX7_carryOut 107 = .ok (.getfield 29, 3) := by decide +kernel
theorem dX7_carryOut_110 : decode cX7_carryOut 110 = .ok (.iload_n 1, 1) := by decide +kernel
theorem dX7_carryOut_111 : decode cX7_carryOut 111 = .ok (.invokevirtual 50, 3) := by decide +kernel
theorem dX7_carryOut_114 : decode cX7_carryOut 114 = .ok (.ireturn, 1) := by decide +kernel
theorem dX7_undo_0 : decode cX7_undo 0 = .ok (.aload_n 0, 1) := by decide +kernel
theorem dX7_undo_1 : decode cX7_undo 1 = .ok (.getfield 29, 3) := by decide +kernel
theorem dX7_undo_4 : decode cX7_undo 4 = .ok (.aload_n 0, 1) := by decide +kernel
theorem dX7_undo_5 : decode cX7_undo 5 = .ok (.getfield 10, 3) := by decide +kernel
theorem dX7_undo_8 : decode cX7_undo 8 = .ok (.invokevirtual 211, 3) := by decide +kernel
theorem dX7_undo_11 : decode cX7_undo 11 = .ok (.ireturn, 1) := by decide +kernel
theorem dX7_save_0 : decode cX7_save 0 = .ok (.iload_n 1, 1) := by decide +kernel
theorem dX7_save_1 : decode cX7_save 1 = .ok (.invokestatic 214, 3) := by decide +kernel
theorem dX7_save_4 : decode cX7_save 4 = .ok (.ifCond .ne 6, 3) := by decide +kernel
theorem dX7_save_7 : decode cX7_save 7 = .ok (.bipush (-2), 2) := by decide +kernel
theorem dX7_save_9 : decode cX7_save 9 = .ok (.ireturn, 1) := by decide +kernel
theorem dX7_save_10 : decode cX7_save 10 = .ok (.aload_n 0, 1) := by decide +kernel
theorem dX7_save_11 : decode cX7_save 11 = .ok (.getfield 29, 3) := by decide +kernel
theorem dX7_save_14 : decode cX7_save 14 = .ok (.iload_n 1, 1) := by decide +kernel
theorem dX7_save_15 : decode cX7_save 15 = .ok (.aload_n 0, 1) := by decide +kernel
theorem dX7_save_16 : decode cX7_save 16 = .ok (.getfield 10, 3) := by decide +kernel
theorem dX7_save_19 : decode cX7_save 19 = .ok (.invokevirtual 217, 3) := by decide +kernel
theorem dX7_save_22 : decode cX7_save 22 = .ok (.aload_n 0, 1) := by decide +kernel
theorem dX7_save_23 : decode cX7_save 23 = .ok (.getfield 10, 3) := by decide +kernel
theorem dX7_save_26 : decode cX7_save 26 = .ok (.bipush 19, 2) := by decide +kernel
theorem dX7_save_28 : decode cX7_save 28 = .ok (.invokevirtual 151, 3) := by decide +kernel
theorem dX7_save_31 : decode cX7_save 31 = .ok (.ireturn, 1) := by decide +kernel
theorem dX7_restore_0 : decode cX7_restore 0 = .ok (.iload_n 1, 1) := by decide +kernel
theorem dX7_restore_1 : decode cX7_restore 1 = .ok (.invokestatic 214, 3) := by decide +kernel
theorem dX7_restore_4 : decode cX7_restore 4 = .ok (.ifCond .ne 6, 3) := by decide +kernel
theorem dX7_restore_7 : decode cX7_restore 7 = .ok (.bipush (-2), 2) := by decide +kernel
theorem dX7_restore_9 : decode cX7_restore 9 = .ok (.ireturn, 1) := by decide +kernel
theorem dX7_restore_10 : decode cX7_restore 10 = .ok (.aload_n 0, 1) := by decide +kernel
theorem dX7_restore_11 : decode cX7_restore 11 = .ok (.getfield 29, 3) := by decide +kernel
theorem dX7_restore_14 : decode cX7_restore 14 = .ok (.iload_n 1, 1) := by decide +kernel
theorem dX7_restore_15 : decode cX7_restore 15 = .ok (.invokevirtual 221, 3) := by decide +kernel
theorem dX7_restore_18 : decode cX7_restore 18 = .ok (.ifCond .ne 6, 3) := by decide +kernel
theorem dX7_restore_21 : decode cX7_restore 21 = .ok (.bipush (-5), 2) := by decide +kernel
theorem dX7_restore_23 : decode cX7_restore 23 = .ok (.ireturn, 1) := by decide +kernel
theorem dX7_restore_24 : decode cX7_restore 24 = .ok (.aload_n 0, 1) := by decide +kernel
theorem dX7_restore_25 : decode cX7_restore 25 = .ok (.getfield 29, 3) := by decide +kernel
theorem dX7_restore_28 : decode cX7_restore 28 = .ok (.aload_n 0, 1) := by decide +kernel
theorem dX7_restore_29 : decode cX7_restore 29 = .ok (.getfield 10, 3) := by decide +kernel
theorem dX7_restore_32 : decode cX7_restore 32 = .ok (.invokevirtual 40, 3) := by decide +kernel
theorem dX7_restore_35 : decode cX7_restore 35 = .ok (.aload_n 0, 1) := by decide +kernel
theorem dX7_restore_36 : decode cX7_restore 36 = .ok (.getfield 29, 3) := by decide +kernel
theorem dX7_restore_39 : decode cX7_restore 39 = .ok (.iload_n 1, 1) := by decide +kernel
theorem dX7_restore_40 : decode cX7_restore 40 = .ok (.aload_n 0, 1) := by decide +kernel
theorem dX7_restore_41 : decode cX7_restore 41 = .ok (.getfield 10, 3) := by decide +kernel
theorem dX7_restore_44 : decode cX7_restore 44 = .ok (.invokevirtual 224, 3) := by decide +kernel
theorem dX7_restore_47 : decode cX7_restore 47 = .ok (.aload_n 0, 1) := by decide +kernel
theorem dX7_restore_48 : decode cX7_restore 48 = .ok (.getfield 29, 3) := by decide +kernel
theorem dX7_restore_51 : decode cX7_restore 51 = .ok (.aload_n 0, 1) := by decide +kernel
theorem dX7_restore_52 : decode cX7_restore 52 = .ok (.getfield 10, 3) := by decide +kernel
theorem dX7_restore_55 : decode cX7_restore 55 = .ok (.bipush 19, 2) := by decide +kernel
theorem dX7_restore_57 : decode cX7_restore 57 = .ok (.invokevirtual 151, 3) := by decide +kernel
theorem dX7_restore_60 : decode cX7_restore 60 = .ok (.invokevirtual 50, 3) := by decide +kernel
theorem dX7_restore_63 : decode cX7_restore 63 = .ok (.ireturn, 1) := by decide +kernel
theorem dX7_isQuarter_0 : decode cX7_isQuarter 0 = .ok (.iload_n 0, 1) := by decide +kernel
theorem dX7_isQuarter_1 : decode cX7_isQuarter 1 = .ok (.ifCond .lt 12, 3) := by decide +kernel
theorem dX7_isQuarter_4 : decode cX7_isQuarter 4 = .ok (.iload_n 0, 1) := by decide +kernel
theorem dX7_isQuarter_5 : decode cX7_isQuarter 5 = .ok (.iconst 4, 1) := by decide +kernel
theorem dX7_isQuarter_6 : decode cX7_isQuarter 6 = .ok (.if_icmp .ge 7, 3) := by decide +kernel
theorem dX7_isQuarter_9 : decode cX7_isQuarter 9 = .ok (.iconst 1, 1) := by decide +kernel
theorem dX7_isQuarter_10 : decode cX7_isQuarter 10 = .ok (.goto 4, 3) := by decide +kernel
theorem dX7_isQuarter_13 : decode cX7_isQuarter 13 = .ok (.iconst 0, 1) := by decide +kernel
theorem dX7_isQuarter_14 : decode cX7_isQuarter 14 = .ok (.ireturn, 1) := by decide +kernel
theorem dX7_isRing_0 : decode cX7_isRing 0 = .ok (.iload_n 0, 1) := by decide +kernel
theorem dX7_isRing_1 : decode cX7_isRing 1 = .ok (.ifCond .lt 12, 3) := by decide +kernel
theorem dX7_isRing_4 : decode cX7_isRing 4 = .ok (.iload_n 0, 1) := by decide +kernel
theorem dX7_isRing_5 : decode cX7_isRing 5 = .ok (.iconst 5, 1) := by decide +kernel
theorem dX7_isRing_6 : decode cX7_isRing 6 = .ok (.if_icmp .ge 7, 3) := by decide +kernel
theorem dX7_isRing_9 : decode cX7_isRing 9 = .ok (.iconst 1, 1) := by decide +kernel
theorem dX7_isRing_10 : decode cX7_isRing 10 = .ok (.goto 4, 3) := by decide +kernel
theorem dX7_isRing_13 : decode cX7_isRing 13 = .ok (.iconst 0, 1) := by decide +kernel
theorem dX7_isRing_14 : decode cX7_isRing 14 = .ok (.ireturn, 1) := by decide +kernel
theorem dX7_isPlace_0 : decode cX7_isPlace 0 = .ok (.iload_n 0, 1) := by decide +kernel
theorem dX7_isPlace_1 : decode cX7_isPlace 1 = .ok (.invokestatic 130, 3) := by decide +kernel
theorem dX7_isPlace_4 : decode cX7_isPlace 4 = .ok (.ifCond .eq 24, 3) := by decide +kernel
theorem dX7_isPlace_7 : decode cX7_isPlace 7 = .ok (.iload_n 1, 1) := by decide +kernel
theorem dX7_isPlace_8 : decode cX7_isPlace 8 = .ok (.invokestatic 107, 3) := by decide +kernel
theorem dX7_isPlace_11 : decode cX7_isPlace 11 = .ok (.ifCond .eq 17, 3) := by decide +kernel
theorem dX7_isPlace_14 : decode cX7_isPlace 14 = .ok (.iload_n 2, 1) := by decide +kernel
theorem dX7_isPlace_15 : decode cX7_isPlace 15 = .ok (.ifCond .lt 13, 3) := by decide +kernel
theorem dX7_isPlace_18 : decode cX7_isPlace 18 = .ok (.iload_n 2, 1) := by decide +kernel
theorem dX7_isPlace_19 : decode cX7_isPlace 19 = .ok (.bipush 8, 2) := by decide +kernel
theorem dX7_isPlace_21 : decode cX7_isPlace 21 = .ok (.if_icmp .ge 7, 3) := by decide +kernel
theorem dX7_isPlace_24 : decode cX7_isPlace 24 = .ok (.iconst 1, 1) := by decide +kernel
theorem dX7_isPlace_25 : decode cX7_isPlace 25 = .ok (.goto 4, 3) := by decide +kernel
theorem dX7_isPlace_28 : decode cX7_isPlace 28 = .ok (.iconst 0, 1) := by decide +kernel
theorem dX7_isPlace_29 : decode cX7_isPlace 29 = .ok (.ireturn, 1) := by decide +kernel
theorem dX7_isColour_0 : decode cX7_isColour 0 = .ok (.iload_n 0, 1) := by decide +kernel
theorem dX7_isColour_1 : decode cX7_isColour 1 = .ok (.iconst 1, 1) := by decide +kernel
theorem dX7_isColour_2 : decode cX7_isColour 2 = .ok (.if_icmp .lt 13, 3) := by decide +kernel
theorem dX7_isColour_5 : decode cX7_isColour 5 = .ok (.iload_n 0, 1) := by decide +kernel
theorem dX7_isColour_6 : decode cX7_isColour 6 = .ok (.bipush 6, 2) := by decide +kernel
theorem dX7_isColour_8 : decode cX7_isColour 8 = .ok (.if_icmp .gt 7, 3) := by decide +kernel
theorem dX7_isColour_11 : decode cX7_isColour 11 = .ok (.iconst 1, 1) := by decide +kernel
theorem dX7_isColour_12 : decode cX7_isColour 12 = .ok (.goto 4, 3) := by decide +kernel
theorem dX7_isColour_15 : decode cX7_isColour 15 = .ok (.iconst 0, 1) := by decide +kernel
theorem dX7_isColour_16 : decode cX7_isColour 16 = .ok (.ireturn, 1) := by decide +kernel
theorem dX7_isDirection_0 : decode cX7_isDirection 0 = .ok (.iload_n 0, 1) := by decide +kernel
theorem dX7_isDirection_1 : decode cX7_isDirection 1 = .ok (.ifCond .eq 8, 3) := by decide +kernel
theorem dX7_isDirection_4 : decode cX7_isDirection 4 = .ok (.iload_n 0, 1) := by decide +kernel
theorem dX7_isDirection_5 : decode cX7_isDirection 5 = .ok (.iconst 1, 1) := by decide +kernel
theorem dX7_isDirection_6 : decode cX7_isDirection 6 = .ok (.if_icmp .ne 7, 3) := by decide +kernel
theorem dX7_isDirection_9 : decode cX7_isDirection 9 = .ok (.iconst 1, 1) := by decide +kernel
theorem dX7_isDirection_10 : decode cX7_isDirection 10 = .ok (.goto 4, 3) := by decide +kernel
theorem dX7_isDirection_13 : decode cX7_isDirection 13 = .ok (.iconst 0, 1) := by decide +kernel
theorem dX7_isDirection_14 : decode cX7_isDirection 14 = .ok (.ireturn, 1) := by decide +kernel
theorem dX7_bit_0 : decode cX7_bit 0 = .ok (.iload_n 0, 1) := by decide +kernel
theorem dX7_bit_1 : decode cX7_bit 1 = .ok (.ifCond .eq 7, 3) := by decide +kernel
theorem dX7_bit_4 : decode cX7_bit 4 = .ok (.iconst 1, 1) := by decide +kernel
theorem dX7_bit_5 : decode cX7_bit 5 = .ok (.goto 4, 3) := by decide +kernel
theorem dX7_bit_8 : decode cX7_bit 8 = .ok (.iconst 0, 1) := by decide +kernel
theorem dX7_bit_9 : decode cX7_bit 9 = .ok (.ireturn, 1) := by decide +kernel
end
section
theorem dX8_init_0 : decode cX8_init 0 = .ok (.aload_n 0, 1) := by decide +kernel
theorem dX8_init_1 : decode cX8_init 1 = .ok (.invokespecial 1, 3) := by decide +kernel
theorem dX8_init_4 : decode cX8_init 4 = .ok (.aload_n 0, 1) := by decide +kernel
theorem dX8_init_5 : decode cX8_init 5 = .ok (.sipush 383, 3) := by decide +kernel
theorem dX8_init_8 : decode cX8_init 8 = .ok (.newarray .int, 2) := by decide +kernel
theorem dX8_init_10 : decode cX8_init 10 = .ok (.putfield 7, 3) := by decide +kernel
theorem dX8_init_13 : decode cX8_init 13 = .ok (.aload_n 0, 1) := by decide +kernel
theorem dX8_init_14 : decode cX8_init 14 = .ok (.sipush 383, 3) := by decide +kernel
theorem dX8_init_17 : decode cX8_init 17 = .ok (.newarray .int, 2) := by decide +kernel
theorem dX8_init_19 : decode cX8_init 19 = .ok (.putfield 13, 3) := by decide +kernel
theorem dX8_init_22 : decode cX8_init 22 = .ok (.aload_n 0, 1) := by decide +kernel
theorem dX8_init_23 : decode cX8_init 23 = .ok (.sipush 383, 3) := by decide +kernel
theorem dX8_init_26 : decode cX8_init 26 = .ok (.newarray .int, 2) := by decide +kernel
theorem dX8_init_28 : decode cX8_init 28 = .ok (.putfield 16, 3) := by decide +kernel
theorem dX8_init_31 : decode cX8_init 31 = .ok (.aload_n 0, 1) := by decide +kernel
theorem dX8_init_32 : decode cX8_init 32 = .ok (.sipush 2298, 3) := by decide +kernel
theorem dX8_init_35 : decode cX8_init 35 = .ok (.newarray .int, 2) := by decide +kernel
theorem dX8_init_37 : decode cX8_init 37 = .ok (.putfield 19, 3) := by decide +kernel
theorem dX8_init_40 : decode cX8_init 40 = .ok (.aload_n 0, 1) := by decide +kernel
theorem dX8_init_41 : decode cX8_init 41 = .ok (.sipush 766, 3) := by decide +kernel
theorem dX8_init_44 : decode cX8_init 44 = .ok (.newarray .int, 2) := by decide +kernel
theorem dX8_init_46 : decode cX8_init 46 = .ok (.putfield 22, 3) := by decide +kernel
theorem dX8_init_49 : decode cX8_init 49 = .ok (.aload_n 0, 1) := by decide +kernel
theorem dX8_init_50 : decode cX8_init 50 = .ok (.iconst 2, 1) := by decide +kernel
theorem dX8_init_51 : decode cX8_init 51 = .ok (.newarray .boolean, 2) := by decide +kernel
theorem dX8_init_53 : decode cX8_init 53 = .ok (.putfield 25, 3) := by decide +kernel
theorem dX8_init_56 : decode cX8_init 56 = .ok (.aload_n 0, 1) := by decide +kernel
theorem dX8_init_57 : decode cX8_init 57 = .ok (.bipush 16, 2) := by decide +kernel
theorem dX8_init_59 : decode cX8_init 59 = .ok (.newarray .int, 2) := by decide +kernel
theorem dX8_init_61 : decode cX8_init 61 = .ok (.putfield 29, 3) := by decide +kernel
theorem dX8_init_64 : decode cX8_init 64 = .ok (.aload_n 0, 1) := by decide +kernel
theorem dX8_init_65 : decode cX8_init 65 = .ok (.sipush 210, 3) := by decide +kernel
theorem dX8_init_68 : decode cX8_init 68 = .ok (.newarray .int, 2) := by decide +kernel
theorem dX8_init_70 : decode cX8_init 70 = .ok (.putfield 32, 3) := by decide +kernel
theorem dX8_init_73 : decode cX8_init 73 = .ok (.aload_n 0, 1) := by decide +kernel
theorem dX8_init_74 : decode cX8_init 74 = .ok (.bipush 80, 2) := by decide +kernel
theorem dX8_init_76 : decode cX8_init 76 = .ok (.newarray .char, 2) := by decide +kernel
theorem dX8_init_78 : decode cX8_init 78 = .ok (.putfield 35, 3) := by decide +kernel
theorem dX8_init_81 : decode cX8_init 81 = .ok (.aload_n 0, 1) := by decide +kernel
theorem dX8_init_82 : decode cX8_init 82 = .ok (.getfield 7, 3) := by decide +kernel
theorem dX8_init_85 : decode cX8_init 85 = .ok (.iconst 0, 1) := by decide +kernel
theorem dX8_init_86 : decode cX8_init 86 = .ok (.iconst 5, 1) := by decide +kernel
theorem dX8_init_87 : decode cX8_init 87 = .ok (.iastore, 1) := by decide +kernel
theorem dX8_init_88 : decode cX8_init 88 = .ok (.aload_n 0, 1) := by decide +kernel
theorem dX8_init_89 : decode cX8_init 89 = .ok (.getfield 7, 3) := by decide +kernel
theorem dX8_init_92 : decode cX8_init 92 = .ok (.iconst 1, 1) := by decide +kernel
theorem dX8_init_93 : decode cX8_init 93 = .ok (.bipush 12, 2) := by decide +kernel
theorem dX8_init_95 : decode cX8_init 95 = .ok (.iastore, 1) := by decide +kernel
theorem dX8_init_96 : decode cX8_init 96 = .ok (.aload_n 0, 1) := by decide +kernel
theorem dX8_init_97 : decode cX8_init 97 = .ok (.getfield 7, 3) := by decide +kernel
theorem dX8_init_100 : decode cX8_init 100 = .ok (.iconst 2, 1) := by decide +kernel
theorem dX8_init_101 : decode cX8_init 101 = .ok (.iconst 1, 1) := by decide +kernel
theorem dX8_init_102 : decode cX8_init 102 = .ok (.iastore, 1) := by decide +kernel
theorem dX8_init_103 : decode cX8_init 103 = .ok (.iconst 1, 1) := by decide +kernel
theorem dX8_init_104 : decode cX8_init 104 = .ok (.istore_n 1, 1) := by decide +kernel
theorem dX8_init_105 : decode cX8_init 105 = .ok (.iload_n 1, 1) := by decide +kernel
theorem dX8_init_106 : decode cX8_init 106 = .ok (.bipush 6, 2) := by decide +kernel
theorem dX8_init_108 : decode cX8_init 108 = .ok (.if_icmp .gt 21, 3) := by decide +kernel
theorem dX8_init_111 : decode cX8_init 111 = .ok (.aload_n 0, 1) := by decide +kernel
theorem dX8_init_112 : decode cX8_init 112 = .ok (.getfield 7, 3) := by decide +kernel
theorem dX8_init_115 : decode cX8_init 115 = .ok (.bipush 11, 2) := by decide +kernel
theorem dX8_init_117 : decode cX8_init 117 = .ok (.iload_n 1, 1) := by decide +kernel
theorem dX8_init_118 : decode cX8_init 118 = .ok (.iadd, 1) := by decide +kernel
theorem dX8_init_119 : decode cX8_init 119 = .ok (.sipush 300, 3) := by decide +kernel
theorem dX8_init_122 : decode cX8_init 122 = .ok (.iastore, 1) := by decide +kernel
theorem dX8_init_123 : decode cX8_init 123 = .ok (.iinc 1 1, 3) := by decide +kernel
theorem dX8_init_126 : decode cX8_init 126 = .ok (.goto (-21), 3) := by decide +kernel
theorem dX8_init_129 : decode cX8_init 129 = .ok (.return_, 1) := by decide +kernel
theorem dX8_in_0 : decode cX8_in 0 = .ok (.iload_n 0, 1) := by decide +kernel
theorem dX8_in_1 : decode cX8_in 1 = .ok (.iload_n 1, 1) := by decide +kernel
theorem dX8_in_2 : decode cX8_in 2 = .ok (.if_icmp .lt 12, 3) := by decide +kernel
theorem dX8_in_5 : decode cX8_in 5 = .ok (.iload_n 0, 1) := by decide +kernel
theorem dX8_in_6 : decode cX8_in 6 = .ok (.iload_n 2, 1) := by decide +kernel
theorem dX8_in_7 : decode cX8_in 7 = .ok (.if_icmp .gt 7, 3) := by decide +kernel
theorem dX8_in_10 : decode cX8_in 10 = .ok (.iconst 1, 1) := by decide +kernel
theorem dX8_in_11 : decode cX8_in 11 = .ok (.goto 4, 3) := by decide +kernel
theorem dX8_in_14 : decode cX8_in 14 = .ok (.iconst 0, 1) := by decide +kernel
theorem dX8_in_15 : decode cX8_in 15 = .ok (.ireturn, 1) := by decide +kernel
theorem dX8_p_0 : decode cX8_p 0 = .ok (.bipush 63, 2) := by decide +kernel
theorem dX8_p_2 : decode cX8_p 2 = .ok (.iconst 2, 1) := by decide +kernel
theorem dX8_p_3 : decode cX8_p 3 = .ok (.bipush 40, 2) := by decide +kernel
theorem dX8_p_5 : decode cX8_p 5 = .ok (.iload_n 0, 1) := by decide +kernel
theorem dX8_p_6 : decode cX8_p 6 = .ok (.imul, 1) := by decide +kernel
theorem dX8_p_7 : decode cX8_p 7 = .ok (.bipush 8, 2) := by decide +kernel
theorem dX8_p_9 : decode cX8_p 9 = .ok (.iload_n 1, 1) := by decide +kernel
theorem dX8_p_10 : decode cX8_p 10 = .ok (.imul, 1) := by decide +kernel
theorem dX8_p_11 : decode cX8_p 11 = .ok (.iadd, 1) := by decide +kernel
theorem dX8_p_12 : decode cX8_p 12 = .ok (.iload_n 2, 1) := by decide +kernel
theorem dX8_p_13 : decode cX8_p 13 = .ok (.iadd, 1) := by decide +kernel
theorem dX8_p_14 : decode cX8_p 14 = .ok (.imul, 1) := by decide +kernel
theorem dX8_p_15 : decode cX8_p 15 = .ok (.iadd, 1) := by decide +kernel
theorem dX8_p_16 : decode cX8_p 16 = .ok (.ireturn, 1) := by decide +kernel
theorem dX8_isQuarter_0 : decode cX8_isQuarter 0 = .ok (.iload_n 0, 1) := by decide +kernel
theorem dX8_isQuarter_1 : decode cX8_isQuarter 1 = .ok (.iconst 0, 1) := by decide +kernel
theorem dX8_isQuarter_2 : decode cX8_isQuarter 2 = .ok (.iconst 3, 1) := by decide +kernel
theorem dX8_isQuarter_3 : decode cX8_isQuarter 3 = .ok (.invokestatic 39, 3) := by decide +kernel
theorem dX8_isQuarter_6 : decode cX8_isQuarter 6 = .ok (.ireturn, 1) := by decide +kernel
theorem dX8_isRing_0 : decode cX8_isRing 0 = .ok (.iload_n 0, 1) := by decide +kernel
theorem dX8_isRing_1 : decode cX8_isRing 1 = .ok (.iconst 0, 1) := by decide +kernel
theorem dX8_isRing_2 : decode cX8_isRing 2 = .ok (.iconst 4, 1) := by decide +kernel
theorem dX8_isRing_3 : decode cX8_isRing 3 = .ok (.invokestatic 39, 3) := by decide +kernel
theorem dX8_isRing_6 : decode cX8_isRing 6 = .ok (.ireturn, 1) := by decide +kernel
theorem dX8_isColour_0 : decode cX8_isColour 0 = .ok (.iload_n 0, 1) := by decide +kernel
theorem dX8_isColour_1 : decode cX8_isColour 1 = .ok (.iconst 1, 1) := by decide +kernel
theorem dX8_isColour_2 : decode cX8_isColour 2 = .ok (.bipush 6, 2) := by decide +kernel
theorem dX8_isColour_4 : decode cX8_isColour 4 = .ok (.invokestatic 39, 3) := by decide +kernel
theorem dX8_isColour_7 : decode cX8_isColour 7 = .ok (.ireturn, 1) := by decide +kernel
theorem dX8_isPlace_0 : decode cX8_isPlace 0 = .ok (.iload_n 0, 1) := by decide +kernel
theorem dX8_isPlace_1 : decode cX8_isPlace 1 = .ok (.invokestatic 43, 3) := by decide +kernel
theorem dX8_isPlace_4 : decode cX8_isPlace 4 = .ok (.ifCond .eq 24, 3) := by decide +kernel
theorem dX8_isPlace_7 : decode cX8_isPlace 7 = .ok (.iload_n 1, 1) := by decide +kernel
theorem dX8_isPlace_8 : decode cX8_isPlace 8 = .ok (.invokestatic 47, 3) := by decide +kernel
theorem dX8_isPlace_11 : decode cX8_isPlace 11 = .ok (.ifCond .eq 17, 3) := by decide +kernel
theorem dX8_isPlace_14 : decode cX8_isPlace 14 = .ok (.iload_n 2, 1) := by decide +kernel
theorem dX8_isPlace_15 : decode cX8_isPlace 15 = .ok (.iconst 0, 1) := by decide +kernel
theorem dX8_isPlace_16 : decode cX8_isPlace 16 = .ok (.bipush 7, 2) := by decide +kernel
theorem dX8_isPlace_18 : decode cX8_isPlace 18 = .ok (.invokestatic 39, 3) := by decide +kernel
theorem dX8_isPlace_21 : decode cX8_isPlace 21 = .ok (.ifCond .eq 7, 3) := by decide +kernel
theorem dX8_isPlace_24 : decode cX8_isPlace 24 = .ok (.iconst 1, 1) := by decide +kernel
theorem dX8_isPlace_25 : decode cX8_isPlace 25 = .ok (.goto 4, 3) := by decide +kernel
theorem dX8_isPlace_28 : decode cX8_isPlace 28 = .ok (.iconst 0, 1) := by decide +kernel
theorem dX8_isPlace_29 : decode cX8_isPlace 29 = .ok (.ireturn, 1) := by decide +kernel
theorem dX8_hold_0 : decode cX8_hold 0 = .ok (.iconst 0, 1) := by decide +kernel
theorem dX8_hold_1 : decode cX8_hold 1 = .ok (.istore_n 1, 1) := by decide +kernel
theorem dX8_hold_2 : decode cX8_hold 2 = .ok (.iload_n 1, 1) := by decide +kernel
theorem dX8_hold_3 : decode cX8_hold 3 = .ok (.sipush 383, 3) := by decide +kernel
theorem dX8_hold_6 : decode cX8_hold 6 = .ok (.if_icmp .ge 21, 3) := by decide +kernel
theorem dX8_hold_9 : decode cX8_hold 9 = .ok (.aload_n 0, 1) := by decide +kernel
theorem dX8_hold_10 : decode cX8_hold 10 = .ok (.getfield 13, 3) := by decide +kernel
theorem dX8_hold_13 : decode cX8_hold 13 = .ok (.iload_n 1, 1) := by decide +kernel
theorem dX8_hold_14 : decode cX8_hold 14 = .ok (.aload_n 0, 1) := by decide +kernel
theorem dX8_hold_15 : decode cX8_hold 15 = .ok (.getfield 7, 3) := by decide +kernel
theorem dX8_hold_18 : decode cX8_hold 18 = .ok (.iload_n 1, 1) := by decide +kernel
theorem dX8_hold_19 : decode cX8_hold 19 = .ok (.iaload, 1) := by decide +kernel
theorem dX8_hold_20 : decode cX8_hold 20 = .ok (.iastore, 1) := by decide +kernel
theorem dX8_hold_21 : decode cX8_hold 21 = .ok (.iinc 1 1, 3) := by decide +kernel
theorem dX8_hold_24 : decode cX8_hold 24 = .ok (.goto (-22), 3) := by decide +kernel
theorem dX8_hold_27 : decode cX8_hold 27 = .ok (.return_, 1) := by decide +kernel
theorem dX8_recorded_0 : decode cX8_recorded 0 = .ok (.iload_n 1, 1) := by decide +kernel
theorem dX8_recorded_1 : decode cX8_recorded 1 = .ok (.ifCond .lt 99, 3) := by decide +kernel
theorem dX8_recorded_4 : decode cX8_recorded 4 = .ok (.aload_n 0, 1) := by decide +kernel
theorem dX8_recorded_5 : decode cX8_recorded 5 = .ok (.getfield 50, 3) := by decide +kernel
theorem dX8_recorded_8 : decode cX8_recorded 8 = .ok (.bipush 6, 2) := by decide +kernel
theorem dX8_recorded_10 : decode cX8_recorded 10 = .ok (.if_icmp .ne 44, 3) := by decide +kernel
theorem dX8_recorded_13 : decode cX8_recorded 13 = .ok (.iconst 0, 1) := by decide +kernel
theorem dX8_recorded_14 : decode cX8_recorded 14 = .ok (.istore_n 2, 1) := by decide +kernel
theorem dX8_recorded_15 : decode cX8_recorded 15 = .ok (.iload_n 2, 1) := by decide +kernel
theorem dX8_recorded_16 : decode cX8_recorded 16 = .ok (.sipush 1915, 3) := by decide +kernel
theorem dX8_recorded_19 : decode cX8_recorded 19 = .ok (.if_icmp .ge 25, 3) := by decide +kernel
theorem dX8_recorded_22 : decode cX8_recorded 22 = .ok (.aload_n 0, 1) := by decide +kernel
theorem dX8_recorded_23 : decode cX8_recorded 23 = .ok (.getfield 19, 3) := by decide +kernel
theorem dX8_recorded_26 : decode cX8_recorded 26 = .ok (.iload_n 2, 1) := by decide +kernel
theorem dX8_recorded_27 : decode cX8_recorded 27 = .ok (.aload_n 0, 1) := by decide +kernel
theorem dX8_recorded_28 : decode cX8_recorded 28 = .ok (.getfield 19, 3) := by decide +kernel
theorem dX8_recorded_31 : decode cX8_recorded 31 = .ok (.sipush 383, 3) := by decide +kernel
theorem dX8_recorded_34 : decode cX8_recorded 34 = .ok (.iload_n 2, 1) := by decide +kernel
theorem dX8_recorded_35 : decode cX8_recorded 35 = .ok (.iadd, 1) := by decide +kernel
theorem dX8_recorded_36 : decode cX8_recorded 36 = .ok (.iaload, 1) := by decide +kernel
theorem dX8_recorded_37 : decode cX8_recorded 37 = .ok (.iastore, 1) := by decide +kernel
theorem dX8_recorded_38 : decode cX8_recorded 38 = .ok (.iinc 2 1, 3) := by decide +kernel
theorem dX8_recorded_41 : decode cX8_recorded 41 = .ok (.goto (-26), 3) := by decide +kernel
theorem dX8_recorded_44 : decode cX8_recorded 44 = .ok (.aload_n 0, 1) := by decide +kernel
theorem dX8_recorded_45 : decode cX8_recorded 45 = .ok (.dup, 1) := by decide +kernel
theorem dX8_recorded_46 : decode cX8_recorded 46 = .ok (.getfield 50, 3) := by decide +kernel
theorem dX8_recorded_49 : decode cX8_recorded 49 = .ok (.iconst 1, 1) := by decide +kernel
theorem dX8_recorded_50 : decode cX8_recorded 50 = .ok (.isub, 1) := by decide +kernel
theorem dX8_recorded_51 : decode cX8_recorded 51 = .ok (.putfield 50, 3) := by decide +kernel
theorem dX8_recorded_54 : decode cX8_recorded 54 = .ok (.iconst 0, 1) := by decide +kernel
theorem dX8_recorded_55 : decode cX8_recorded 55 = .ok (.istore_n 2, 1) := by decide +kernel
theorem dX8_recorded_56 : decode cX8_recorded 56 = .ok (.iload_n 2, 1) := by decide +kernel
theorem dX8_recorded_57 : decode cX8_recorded 57 = .ok (.sipush 383, 3) := by decide +kernel
theorem dX8_recorded_60 : decode cX8_recorded 60 = .ok (.if_icmp .ge 30, 3) := by decide +kernel
theorem dX8_recorded_63 : decode cX8_recorded 63 = .ok (.aload_n 0, 1) := by decide +kernel
theorem dX8_recorded_64 : decode cX8_recorded 64 = .ok (.getfield 19, 3) := by decide +kernel
theorem dX8_recorded_67 : decode cX8_recorded 67 = .ok (.sipush 383, 3) := by decide +kernel
theorem dX8_recorded_70 : decode cX8_recorded 70 = .ok (.aload_n 0, 1) := by decide +kernel
theorem dX8_recorded_71 : decode cX8_recorded 71 = .ok (.getfield 50, 3) := by decide +kernel
theorem dX8_recorded_74 : decode cX8_recorded 74 = .ok (.imul, 1) := by decide +kernel
theorem dX8_recorded_75 : decode cX8_recorded 75 = .ok (.iload_n 2, 1) := by decide +kernel
theorem dX8_recorded_76 : decode cX8_recorded 76 = .ok (.iadd, 1) := by decide +kernel
theorem dX8_recorded_77 : decode cX8_recorded 77 = .ok (.aload_n 0, 1) := by decide +kernel
theorem dX8_recorded_78 : decode cX8_recorded 78 = .ok (.getfield 13, 3) := by decide +kernel
theorem dX8_recorded_81 : decode cX8_recorded 81 = .ok (.iload_n 2, 1) := by decide +kernel
theorem dX8_recorded_82 : decode cX8_recorded 82 = .ok (.iaload, 1) := by decide +kernel
theorem dX8_recorded_83 : decode cX8_recorded 83 = .ok (.iastore, 1) := by decide +kernel
theorem dX8_recorded_84 : decode cX8_recorded 84 = .ok (.iinc 2 1, 3) := by decide +kernel
theorem dX8_recorded_87 : decode cX8_recorded 87 = .ok (.goto (-31), 3) := by decide +kernel
theorem dX8_recorded_90 : decode cX8_recorded 90 = .ok (.aload_n 0, 1) := by decide +kernel
theorem dX8_recorded_91 : decode cX8_recorded 91 = .ok (.dup, 1) := by decide +kernel
theorem dX8_recorded_92 : decode cX8_recorded 92 = .ok (.getfield 50, 3) := by decide +kernel
theorem dX8_recorded_95 : decode cX8_recorded 95 = .ok (.iconst 1, 1) := by decide +kernel
theorem dX8_recorded_96 : decode cX8_recorded 96 = .ok (.iadd, 1) := by decide +kernel
theorem dX8_recorded_97 : decode cX8_recorded 97 = .ok (.putfield 50, 3) := by decide +kernel
theorem dX8_recorded_100 : decode cX8_recorded 100 = .ok (.iload_n 1, 1) := by decide +kernel
theorem dX8_recorded_101 : decode cX8_recorded 101 = .ok (.ireturn, 1) := by decide +kernel
theorem dX8_keepTrial_0 : decode cX8_keepTrial 0 = .ok (.iconst 0, 1) := by decide +kernel
theorem dX8_keepTrial_1 : decode cX8_keepTrial 1 = .ok (.istore_n 1, 1) := by decide +kernel
theorem dX8_keepTrial_2 : decode cX8_keepTrial 2 = .ok (.iload_n 1, 1) := by decide +kernel
theorem dX8_keepTrial_3 : decode cX8_keepTrial 3 = .ok (.sipush 383, 3) := by decide +kernel
theorem dX8_keepTrial_6 : decode cX8_keepTrial 6 = .ok (.if_icmp .ge 21, 3) := by decide +kernel
theorem dX8_keepTrial_9 : decode cX8_keepTrial 9 = .ok (.aload_n 0, 1) := by decide +kernel
theorem dX8_keepTrial_10 : decode cX8_keepTrial 10 = .ok (.getfield 16, 3) := by decide +kernel
theorem dX8_keepTrial_13 : decode cX8_keepTrial 13 = .ok (.iload_n 1, 1) := by decide +kernel
theorem dX8_keepTrial_14 : decode cX8_keepTrial 14 = .ok (.aload_n 0, 1) := by decide +kernel
theorem dX8_keepTrial_15 : decode cX8_keepTrial 15 = .ok (.getfield 7, 3) := by decide +kernel
theorem dX8_keepTrial_18 : decode cX8_keepTrial 18 = .ok (.iload_n 1, 1) := by decide +kernel
theorem dX8_keepTrial_19 : decode cX8_keepTrial 19 = .ok (.iaload, 1) := by decide +kernel
theorem dX8_keepTrial_20 : decode cX8_keepTrial 20 = .ok (.iastore, 1) := by decide +kernel
theorem dX8_keepTrial_21 : decode cX8_keepTrial 21 = .ok (.iinc 1 1, 3) := by decide +kernel
theorem dX8_keepTrial_24 : decode cX8_keepTrial 24 = .ok (.goto (-22), 3) := by decide +kernel
theorem dX8_keepTrial_27 : decode cX8_keepTrial 27 = .ok (.return_, 1) := by decide +kernel
theorem dX8_putBack_0 : decode cX8_putBack 0 = .ok (.iconst 0, 1) := by decide +kernel
theorem dX8_putBack_1 : decode cX8_putBack 1 = .ok (.istore_n 1, 1) := by decide +kernel
theorem dX8_putBack_2 : decode cX8_putBack 2 = .ok (.iload_n 1, 1) := by decide +kernel
theorem dX8_putBack_3 : decode cX8_putBack 3 = .ok (.sipush 383, 3) := by decide +kernel
theorem dX8_putBack_6 : decode cX8_putBack 6 = .ok (.if_icmp .ge 21, 3) := by decide +kernel
theorem dX8_putBack_9 : decode cX8_putBack 9 = .ok (.aload_n 0, 1) := by decide +kernel
theorem dX8_putBack_10 : decode cX8_putBack 10 = .ok (.getfield 7, 3) := by decide +kernel
theorem dX8_putBack_13 : decode cX8_putBack 13 = .ok (.iload_n 1, 1) := by decide +kernel
theorem dX8_putBack_14 : decode cX8_putBack 14 = .ok (.aload_n 0, 1) := by decide +kernel
theorem dX8_putBack_15 : decode cX8_putBack 15 = .ok (.getfield 16, 3) := by decide +kernel
theorem dX8_putBack_18 : decode cX8_putBack 18 = .ok (.iload_n 1, 1) := by decide +kernel
theorem dX8_putBack_19 : decode cX8_putBack 19 = .ok (.iaload, 1) := by decide +kernel
theorem dX8_putBack_20 : decode cX8_putBack 20 = .ok (.iastore, 1) := by decide +kernel
theorem dX8_putBack_21 : decode cX8_putBack 21 = .ok (.iinc 1 1, 3) := by decide +kernel
theorem dX8_putBack_24 : decode cX8_putBack 24 = .ok (.goto (-22), 3) := by decide +kernel
theorem dX8_putBack_27 : decode cX8_putBack 27 = .ok (.return_, 1) := by decide +kernel
theorem dX8_isMirrored_0 : decode cX8_isMirrored 0 = .ok (.aload_n 0, 1) := by decide +kernel
theorem dX8_isMirrored_1 : decode cX8_isMirrored 1 = .ok (.getfield 7, 3) := by decide +kernel
theorem dX8_isMirrored_4 : decode cX8_isMirrored 4 = .ok (.iconst 2, 1) := by decide +kernel
theorem dX8_isMirrored_5 : decode cX8_isMirrored 5 = .ok (.iaload, 1) := by decide +kernel
theorem dX8_isMirrored_6 : decode cX8_isMirrored 6 = .ok (.iconst 1, 1) := by decide +kernel
theorem dX8_isMirrored_7 : decode cX8_isMirrored 7 = .ok (.if_icmp .ne 14, 3) := by decide +kernel
theorem dX8_isMirrored_10 : decode cX8_isMirrored 10 = .ok (.iload_n 1, 1) := by decide +kernel
theorem dX8_isMirrored_11 : decode cX8_isMirrored 11 = .ok (.iconst 2, 1) := by decide +kernel
theorem dX8_isMirrored_12 : decode cX8_isMirrored 12 = .ok (.irem, 1) := by decide +kernel
theorem dX8_isMirrored_13 : decode cX8_isMirrored 13 = .ok (.iconst 1, 1) := by decide +kernel
theorem dX8_isMirrored_14 : decode cX8_isMirrored 14 = .ok (.if_icmp .ne 7, 3) := by decide +kernel
theorem dX8_isMirrored_17 : decode cX8_isMirrored 17 = .ok (.iconst 1, 1) := by decide +kernel
theorem dX8_isMirrored_18 : decode cX8_isMirrored 18 = .ok (.goto 4, 3) := by decide +kernel
theorem dX8_isMirrored_21 : decode cX8_isMirrored 21 = .ok (.iconst 0, 1) := by decide +kernel
theorem dX8_isMirrored_22 : decode cX8_isMirrored 22 = .ok (.ireturn, 1) := by decide +kernel
theorem dX8_mirrored_0 : decode cX8_mirrored 0 = .ok (.aload_n 0, 1) := by decide +kernel
theorem dX8_mirrored_1 : decode cX8_mirrored 1 = .ok (.iload_n 1, 1) := by decide +kernel
theorem dX8_mirrored_2 : decode cX8_mirrored 2 = .ok (.invokevirtual 54, 3) := by decide +kernel
theorem dX8_mirrored_5 : decode cX8_mirrored 5 = .ok (.ifCond .eq 10, 3) := by decide +kernel
theorem dX8_mirrored_8 : decode cX8_mirrored 8 = .ok (.bipush 7, 2) := by decide +kernel
theorem dX8_mirrored_10 : decode cX8_mirrored 10 = .ok (.iload_n 2, 1) := by decide +kernel
theorem dX8_mirrored_11 : decode cX8_mirrored 11 = .ok (.isub, 1) := by decide +kernel
theorem dX8_mirrored_12 : decode cX8_mirrored 12 = .ok (.goto 4, 3) := by decide +kernel
theorem dX8_mirrored_15 : decode cX8_mirrored 15 = .ok (.iload_n 2, 1) := by decide +kernel
theorem dX8_mirrored_16 : decode cX8_mirrored 16 = .ok (.ireturn, 1) := by decide +kernel
theorem dX8_wanted_0 : decode cX8_wanted 0 = .ok (.aload_n 0, 1) := by decide +kernel
theorem dX8_wanted_1 : decode cX8_wanted 1 = .ok (.getfield 7, 3) := by decide +kernel
theorem dX8_wanted_4 : decode cX8_wanted 4 = .ok (.bipush 18, 2) := by decide +kernel
theorem dX8_wanted_6 : decode cX8_wanted 6 = .ok (.iload_n 2, 1) := by decide +kernel
theorem dX8_wanted_7 : decode cX8_wanted 7 = .ok (.iadd, 1) := by decide +kernel
theorem dX8_wanted_8 : decode cX8_wanted 8 = .ok (.iaload, 1) := by decide +kernel
theorem dX8_wanted_9 : decode cX8_wanted 9 = .ok (.ifCond .ne 8, 3) := by decide +kernel
theorem dX8_wanted_12 : decode cX8_wanted 12 = .ok (.bipush (-6), 2) := by decide +kernel
theorem dX8_wanted_14 : decode cX8_wanted 14 = .ok (.goto 22, 3) := by decide +kernel
theorem dX8_wanted_17 : decode cX8_wanted 17 = .ok (.aload_n 0, 1) := by decide +kernel
theorem dX8_wanted_18 : decode cX8_wanted 18 = .ok (.getfield 7, 3) := by decide +kernel
theorem dX8_wanted_21 : decode cX8_wanted 21 = .ok (.bipush 23, 2) := by decide +kernel
theorem dX8_wanted_23 : decode cX8_wanted 23 = .ok (.bipush 8, 2) := by decide +kernel
theorem dX8_wanted_25 : decode cX8_wanted 25 = .ok (.iload_n 2, 1) := by decide +kernel
theorem dX8_wanted_26 : decode cX8_wanted 26 = .ok (.imul, 1) := by decide +kernel
theorem dX8_wanted_27 : decode cX8_wanted 27 = .ok (.iadd, 1) := by decide +kernel
theorem dX8_wanted_28 : decode cX8_wanted 28 = .ok (.aload_n 0, 1) := by decide +kernel
theorem dX8_wanted_29 : decode cX8_wanted 29 = .ok (.iload_n 1, 1) := by decide +kernel
theorem dX8_wanted_30 : decode cX8_wanted 30 = .ok (.iload_n 3, 1) := by decide +kernel
theorem dX8_wanted_31 : decode cX8_wanted 31 = .ok (.invokevirtual 57, 3) := by decide +kernel
theorem dX8_wanted_34 : decode cX8_wanted 34 = .ok (.iadd, 1) := by decide +kernel
theorem dX8_wanted_35 : decode cX8_wanted 35 = .ok (.iaload, 1) := by decide +kernel
theorem dX8_wanted_36 : decode cX8_wanted 36 = .ok (.ireturn, 1) := by decide +kernel
theorem dX8_isRight_0 : decode cX8_isRight 0 = .ok (.iload_n 1, 1) := by decide +kernel
theorem dX8_isRight_1 : decode cX8_isRight 1 = .ok (.iload_n 2, 1) := by decide +kernel
theorem dX8_isRight_2 : decode cX8_isRight 2 = .ok (.iload_n 3, 1) := by decide +kernel
theorem dX8_isRight_3 : decode cX8_isRight 3 = .ok (.invokestatic 61, 3) := by decide +kernel
theorem dX8_isRight_6 : decode cX8_isRight 6 = .ok (.istore 4, 2) := by decide +kernel
theorem dX8_isRight_8 : decode cX8_isRight 8 = .ok (.aload_n 0, 1) := by decide +kernel
theorem dX8_isRight_9 : decode cX8_isRight 9 = .ok (.iload_n 1, 1) := by decide +kernel
theorem dX8_isRight_10 : decode cX8_isRight 10 = .ok (.iload_n 2, 1) := by decide +kernel
theorem dX8_isRight_11 : decode cX8_isRight 11 = .ok (.iload_n 3, 1) := by decide +kernel
theorem dX8_isRight_12 : decode cX8_isRight 12 = .ok (.invokevirtual 65, 3) := by decide +kernel
theorem dX8_isRight_15 : decode cX8_isRight 15 = .ok (.istore 5, 2) := by decide +kernel
theorem dX8_isRight_17 : decode cX8_isRight 17 = .ok (.iload 5, 2) := by decide +kernel
theorem dX8_isRight_19 : decode cX8_isRight 19 = .ok (.ifCond .ne 23, 3) := by decide +kernel
theorem dX8_isRight_22 : decode cX8_isRight 22 = .ok (.aload_n 0, 1) := by decide +kernel
theorem dX8_isRight_23 : decode cX8_isRight 23 = .ok (.getfield 7, 3) := by decide +kernel
theorem dX8_isRight_26 : decode cX8_isRight 26 = .ok (.iload 4, 2) := by decide +kernel
theorem dX8_isRight_28 : decode cX8_isRight 28 = .ok (.iconst 1, 1) := by decide +kernel
theorem dX8_isRight_29 : decode cX8_isRight 29 = .ok (.iadd, 1) := by decide +kernel
theorem dX8_isRight_30 : decode cX8_isRight 30 = .ok (.iaload, 1) := by decide +kernel
theorem dX8_isRight_31 : decode cX8_isRight 31 = .ok (.ifCond .ne 7, 3) := by decide +kernel
theorem dX8_isRight_34 : decode cX8_isRight 34 = .ok (.iconst 1, 1) := by decide +kernel
theorem dX8_isRight_35 : decode cX8_isRight 35 = .ok (.goto 49, 3) := by decide +kernel
theorem dX8_isRight_38 : decode cX8_isRight 38 = .ok (.iconst 0, 1) := by decide +kernel
theorem dX8_isRight_39 : decode cX8_isRight 39 = .ok (.goto 45, 3) := by decide +kernel
theorem dX8_isRight_42 : decode cX8_isRight 42 = .ok (.iload 5, 2) := by decide +kernel
theorem dX8_isRight_44 : decode cX8_isRight 44 = .ok (.ifCond .le 39, 3) := by decide +kernel
theorem dX8_isRight_47 : decode cX8_isRight 47 = .ok (.aload_n 0, 1) := by decide +kernel
theorem dX8_isRight_48 : decode cX8_isRight 48 = .ok (.getfield 7, 3) := by decide +kernel
theorem dX8_isRight_51 : decode cX8_isRight 51 = .ok (.iload 4, 2) := by decide +kernel
theorem dX8_isRight_53 : decode cX8_isRight 53 = .ok (.iconst 0, 1) := by decide +kernel
theorem dX8_isRight_54 : decode cX8_isRight 54 = .ok (.iadd, 1) := by decide +kernel
theorem dX8_isRight_55 : decode cX8_isRight 55 = .ok (.iaload, 1) := by decide +kernel
theorem dX8_isRight_56 : decode cX8_isRight 56 = .ok (.iload 5, 2) := by decide +kernel
theorem dX8_isRight_58 : decode cX8_isRight 58 = .ok (.if_icmp .ne 25, 3) := by decide +kernel
theorem dX8_isRight_61 : decode cX8_isRight 61 = .ok (.aload_n 0, 1) := by decide +kernel
theorem dX8_isRight_62 : decode cX8_isRight 62 = .ok (.getfield 7, 3) := by decide +kernel
theorem dX8_isRight_65 : decode cX8_isRight 65 = .ok (.iload 4, 2) := by decide +kernel
theorem dX8_isRight_67 : decode cX8_isRight 67 = .ok (.iconst 1, 1) := by decide +kernel
theorem dX8_isRight_68 : decode cX8_isRight 68 = .ok (.iadd, 1) := by decide +kernel
theorem dX8_isRight_69 : decode cX8_isRight 69 = .ok (.iaload, 1) := by decide +kernel
theorem dX8_isRight_70 : decode cX8_isRight 70 = .ok (.aload_n 0, 1) := by decide +kernel
theorem dX8_isRight_71 : decode cX8_isRight 71 = .ok (.getfield 7, 3) := by decide +kernel
theorem dX8_isRight_74 : decode cX8_isRight 74 = .ok (.iconst 0, 1) := by decide +kernel
theorem dX8_isRight_75 : decode cX8_isRight 75 = .ok (.iaload, 1) := by decide +kernel
theorem dX8_isRight_76 : decode cX8_isRight 76 = .ok (.if_icmp .lt 7, 3) := by decide +kernel
theorem dX8_isRight_79 : decode cX8_isRight 79 = .ok (.iconst 1, 1) := by decide +kernel
theorem dX8_isRight_80 : decode cX8_isRight 80 = .ok (.goto 4, 3) := by decide +kernel
theorem dX8_isRight_83 : decode cX8_isRight 83 = .ok (.iconst 0, 1) := by decide +kernel
theorem dX8_isRight_84 : decode cX8_isRight 84 = .ok (.ireturn, 1) := by decide +kernel
theorem dX8_missing_0 : decode cX8_missing 0 = .ok (.iload_n 1, 1) := by decide +kernel
theorem dX8_missing_1 : decode cX8_missing 1 = .ok (.iload_n 2, 1) := by decide +kernel
theorem dX8_missing_2 : decode cX8_missing 2 = .ok (.iload_n 3, 1) := by decide +kernel
theorem dX8_missing_3 : decode cX8_missing 3 = .ok (.invokestatic 61, 3) := by decide +kernel
theorem dX8_missing_6 : decode cX8_missing 6 = .ok (.istore 4, 2) := by decide +kernel
theorem dX8_missing_8 : decode cX8_missing 8 = .ok (.aload_n 0, 1) := by decide +kernel
theorem dX8_missing_9 : decode cX8_missing 9 = .ok (.iload_n 1, 1) := by decide +kernel
theorem dX8_missing_10 : decode cX8_missing 10 = .ok (.iload_n 2, 1) := by decide +kernel
theorem dX8_missing_11 : decode cX8_missing 11 = .ok (.iload_n 3, 1) := by decide +kernel
theorem dX8_missing_12 : decode cX8_missing 12 = .ok (.invokevirtual 65, 3) := by decide +kernel
theorem dX8_missing_15 : decode cX8_missing 15 = .ok (.istore 5, 2) := by decide +kernel
theorem dX8_missing_17 : decode cX8_missing 17 = .ok (.aload_n 0, 1) := by decide +kernel
theorem dX8_missing_18 : decode cX8_missing 18 = .ok (.getfield 7, 3) := by decide +kernel
theorem dX8_missing_21 : decode cX8_missing 21 = .ok (.iload 4, 2) := by decide +kernel
theorem dX8_missing_23 : decode cX8_missing 23 = .ok (.iconst 0, 1) := by decide +kernel
theorem dX8_missing_24 : decode cX8_missing 24 = .ok (.iadd, 1) := by decide +kernel
theorem dX8_missing_25 : decode cX8_missing 25 = .ok (.iaload, 1) := by decide +kernel
theorem dX8_missing_26 : decode cX8_missing 26 = .ok (.iload 5, 2) := by decide +kernel
theorem dX8_missing_28 : decode cX8_missing 28 = .ok (.if_icmp .ne 15, 3) := by decide +kernel
theorem dX8_missing_31 : decode cX8_missing 31 = .ok (.aload_n 0, 1) := by decide +kernel
theorem dX8_missing_32 : decode cX8_missing 32 = .ok (.getfield 7, 3) := by decide +kernel
theorem dX8_missing_35 : decode cX8_missing 35 = .ok (.iload 4, 2) := by decide +kernel
theorem dX8_missing_37 : decode cX8_missing 37 = .ok (.iconst 1, 1) := by decide +kernel
theorem dX8_missing_38 : decode cX8_missing 38 = .ok (.iadd, 1) := by decide +kernel
theorem dX8_missing_39 : decode cX8_missing 39 = .ok (.iaload, 1) := by decide +kernel
theorem dX8_missing_40 : decode cX8_missing 40 = .ok (.goto 4, 3) := by decide +kernel
theorem dX8_missing_43 : decode cX8_missing 43 = .ok (.iconst 0, 1) := by decide +kernel
theorem dX8_missing_44 : decode cX8_missing 44 = .ok (.istore 6, 2) := by decide +kernel
theorem dX8_missing_46 : decode cX8_missing 46 = .ok (.iload 5, 2) := by decide +kernel
theorem dX8_missing_48 : decode cX8_missing 48 = .ok (.ifCond .le 14, 3) := by decide +kernel
theorem dX8_missing_51 : decode cX8_missing 51 = .ok (.iload 6, 2) := by decide +kernel
theorem dX8_missing_53 : decode cX8_missing 53 = .ok (.aload_n 0, 1) := by decide +kernel
theorem dX8_missing_54 : decode cX8_missing 54 = .ok (.getfield 7, 3) := by decide +kernel
theorem dX8_missing_57 : decode cX8_missing 57 = .ok (.iconst 0, 1) := by decide +kernel
theorem dX8_missing_58 : decode cX8_missing 58 = .ok (.iaload, 1) := by decide +kernel
theorem dX8_missing_59 : decode cX8_missing 59 = .ok (.if_icmp .lt 7, 3) := by decide +kernel
theorem dX8_missing_62 : decode cX8_missing 62 = .ok (.iconst 0, 1) := by decide +kernel
theorem dX8_missing_63 : decode cX8_missing 63 = .ok (.goto 12, 3) := by decide +kernel
theorem dX8_missing_66 : decode cX8_missing 66 = .ok (.aload_n 0, 1) := by decide +kernel
theorem dX8_missing_67 : decode cX8_missing 67 = .ok (.getfield 7, 3) := by decide +kernel
theorem dX8_missing_70 : decode cX8_missing 70 = .ok (.iconst 0, 1) := by decide +kernel
theorem dX8_missing_71 : decode cX8_missing 71 = .ok (.iaload, 1) := by decide +kernel
theorem dX8_missing_72 : decode cX8_missing 72 = .ok (.iload 6, 2) := by decide +kernel
theorem dX8_missing_74 : decode cX8_missing 74 = .ok (.isub, 1) := by decide +kernel
theorem dX8_missing_75 : decode cX8_missing 75 = .ok (.ireturn, 1) := by decide +kernel
theorem dX8_isWhole_0 : decode cX8_isWhole 0 = .ok (.iconst 1, 1) := by decide +kernel
theorem dX8_isWhole_1 : decode cX8_isWhole 1 = .ok (.istore_n 2, 1) := by decide +kernel
theorem dX8_isWhole_2 : decode cX8_isWhole 2 = .ok (.iconst 0, 1) := by decide +kernel
theorem dX8_isWhole_3 : decode cX8_isWhole 3 = .ok (.istore_n 3, 1) := by decide +kernel
theorem dX8_isWhole_4 : decode cX8_isWhole 4 = .ok (.iload_n 3, 1) := by decide +kernel
theorem dX8_isWhole_5 : decode cX8_isWhole 5 = .ok (.bipush 32, 2) := by decide +kernel
theorem dX8_isWhole_7 : decode cX8_isWhole 7 = .ok (.if_icmp .ge 35, 3) := by decide +kernel
theorem dX8_isWhole_10 : decode cX8_isWhole 10 = .ok (.iload_n 2, 1) := by decide +kernel
theorem dX8_isWhole_11 : decode cX8_isWhole 11 = .ok (.ifCond .eq 23, 3) := by decide +kernel
theorem dX8_isWhole_14 : decode cX8_isWhole 14 = .ok (.aload_n 0, 1) := by decide +kernel
theorem dX8_isWhole_15 : decode cX8_isWhole 15 = .ok (.iload_n 3, 1) := by decide +kernel
theorem dX8_isWhole_16 : decode cX8_isWhole 16 = .ok (.bipush 8, 2) := by decide +kernel
theorem dX8_isWhole_18 : decode cX8_isWhole 18 = .ok (.idiv, 1) := by decide +kernel
theorem dX8_isWhole_19 : decode cX8_isWhole 19 = .ok (.iload_n 1, 1) := by decide +kernel
theorem dX8_isWhole_20 : decode cX8_isWhole 20 = .ok (.iload_n 3, 1) := by decide +kernel
theorem dX8_isWhole_21 : decode cX8_isWhole 21 = .ok (.bipush 8, 2) := by decide +kernel
theorem dX8_isWhole_23 : decode cX8_isWhole 23 = .ok (.irem, 1) := by decide +kernel
theorem dX8_isWhole_24 : decode cX8_isWhole 24 = .ok (.invokevirtual 68, 3) := by decide +kernel
theorem dX8_isWhole_27 : decode cX8_isWhole 27 = .ok (.ifCond .eq 7, 3) := by decide +kernel
theorem dX8_isWhole_30 : decode cX8_isWhole 30 = .ok (.iconst 1, 1) := by decide +kernel
theorem dX8_isWhole_31 : decode cX8_isWhole 31 = .ok (.goto 4, 3) := by decide +kernel
theorem dX8_isWhole_34 : decode cX8_isWhole 34 = .ok (.iconst 0, 1) := by decide +kernel
theorem dX8_isWhole_35 : decode cX8_isWhole 35 = .ok (.istore_n 2, 1) := by decide +kernel
theorem dX8_isWhole_36 : decode cX8_isWhole 36 = .ok (.iinc 3 1, 3) := by decide +kernel
theorem dX8_isWhole_39 : decode cX8_isWhole 39 = .ok (.goto (-35), 3) := by decide +kernel
theorem dX8_isWhole_42 : decode cX8_isWhole 42 = .ok (.iload_n 2, 1) := by decide +kernel
theorem dX8_isWhole_43 : decode cX8_isWhole 43 = .ok (.ireturn, 1) := by decide +kernel
theorem dX8_isOpen_0 : decode cX8_isOpen 0 = .ok (.iload_n 1, 1) := by decide +kernel
theorem dX8_isOpen_1 : decode cX8_isOpen 1 = .ok (.aload_n 0, 1) := by decide +kernel
theorem dX8_isOpen_2 : decode cX8_isOpen 2 = .ok (.getfield 7, 3) := by decide +kernel
theorem dX8_isOpen_5 : decode cX8_isOpen 5 = .ok (.iconst 3, 1) := by decide +kernel
theorem dX8_isOpen_6 : decode cX8_isOpen 6 = .ok (.iaload, 1) := by decide +kernel
theorem dX8_isOpen_7 : decode cX8_isOpen 7 = .ok (.if_icmp .lt 7, 3) := by decide +kernel
theorem dX8_isOpen_10 : decode cX8_isOpen 10 = .ok (.iconst 1, 1) := by decide +kernel
theorem dX8_isOpen_11 : decode cX8_isOpen 11 = .ok (.goto 4, 3) := by decide +kernel
theorem dX8_isOpen_14 : decode cX8_isOpen 14 = .ok (.iconst 0, 1) := by decide +kernel
theorem dX8_isOpen_15 : decode cX8_isOpen 15 = .ok (.ireturn, 1) := by decide +kernel
theorem dX8_puts_0 : decode cX8_puts 0 = .ok (.aload_n 0, 1) := by decide +kernel
theorem dX8_puts_1 : decode cX8_puts 1 = .ok (.getfield 7, 3) := by decide +kernel
theorem dX8_puts_4 : decode cX8_puts 4 = .ok (.iload_n 1, 1) := by decide +kernel
theorem dX8_puts_5 : decode cX8_puts 5 = .ok (.iconst 0, 1) := by decide +kernel
theorem dX8_puts_6 : decode cX8_puts 6 = .ok (.iadd, 1) := by decide +kernel
theorem dX8_puts_7 : decode cX8_puts 7 = .ok (.iload_n 3, 1) := by decide +kernel
theorem dX8_puts_8 : decode cX8_puts 8 = .ok (.ifCond .ne 7, 3) := by decide +kernel
theorem dX8_puts_11 : decode cX8_puts 11 = .ok (.iconst 0, 1) := by decide +kernel
theorem dX8_puts_12 : decode cX8_puts 12 = .ok (.goto 4, 3) := by decide +kernel
theorem dX8_puts_15 : decode cX8_puts 15 = .ok (.iload_n 2, 1) := by decide +kernel
theorem dX8_puts_16 : decode cX8_puts 16 = .ok (.iastore, 1) := by decide +kernel
theorem dX8_puts_17 : decode cX8_puts 17 = .ok (.aload_n 0, 1) := by decide +kernel
theorem dX8_puts_18 : decode cX8_puts 18 = .ok (.getfield 7, 3) := by decide +kernel
theorem dX8_puts_21 : decode cX8_puts 21 = .ok (.iload_n 1, 1) := by decide +kernel
theorem dX8_puts_22 : decode cX8_puts 22 = .ok (.iconst 1, 1) := by decide +kernel
theorem dX8_puts_23 : decode cX8_puts 23 = .ok (.iadd, 1) := by decide +kernel
theorem dX8_puts_24 : decode cX8_puts 24 = .ok (.iload_n 3, 1) := by decide +kernel
theorem dX8_puts_25 : decode cX8_puts 25 = .ok (.iastore, 1) := by decide +kernel
theorem dX8_puts_26 : decode cX8_puts 26 = .ok (.return_, 1) := by decide +kernel
theorem dX8_patterns_0 : decode cX8_patterns 0 = .ok (.iload_n 1, 1) := by decide +kernel
theorem dX8_patterns_1 : decode cX8_patterns 1 = .ok (.invokestatic 47, 3) := by decide +kernel
theorem dX8_patterns_4 : decode cX8_patterns 4 = .ok (.ifCond .ne 5, 3) := by decide +kernel
theorem dX8_patterns_7 : decode cX8_patterns 7 = .ok (.iconst (-1), 1) := by decide +kernel
theorem dX8_patterns_8 : decode cX8_patterns 8 = .ok (.ireturn, 1) := by decide +kernel
theorem dX8_patterns_9 : decode cX8_patterns 9 = .ok (.iload_n 2, 1) := by decide +kernel
theorem dX8_patterns_10 : decode cX8_patterns 10 = .ok (.iconst 0, 1) := by decide +kernel
theorem dX8_patterns_11 : decode cX8_patterns 11 = .ok (.ldc 71, 2) := by decide +kernel
theorem dX8_patterns_13 : decode cX8_patterns 13 = .ok (.invokestatic 39, 3) := by decide +kernel
theorem dX8_patterns_16 : decode cX8_patterns 16 = .ok (.istore_n 3, 1) := by decide +kernel
theorem dX8_patterns_17 : decode cX8_patterns 17 = .ok (.iconst 0, 1) := by decide +kernel
theorem dX8_patterns_18 : decode cX8_patterns 18 = .ok (.istore 4, 2) := by decide +kernel
theorem dX8_patterns_20 : decode cX8_patterns 20 = .ok (.iload 4, 2) := by decide +kernel
theorem dX8_patterns_22 : decode cX8_patterns 22 = .ok (.bipush 8, 2) := by decide +kernel
theorem dX8_patterns_24 : decode cX8_patterns 24 = .ok (.if_icmp .ge 33, 3) := by decide +kernel
theorem dX8_patterns_27 : decode cX8_patterns 27 = .ok (.iload_n 3, 1) := by decide +kernel
theorem dX8_patterns_28 : decode cX8_patterns 28 = .ok (.ifCond .eq 21, 3) := by decide +kernel
theorem dX8_patterns_31 : decode cX8_patterns 31 = .ok (.iload_n 2, 1) := by decide +kernel
theorem dX8_patterns_32 : decode cX8_patterns 32 = .ok (.iconst 3, 1) := by decide +kernel
theorem dX8_patterns_33 : decode cX8_patterns 33 = .ok (.iload 4, 2) := by decide +kernel
theorem dX8_patterns_35 : decode cX8_patterns 35 = .ok (.imul, 1) := by decide +kernel
theorem dX8_patterns_36 : decode cX8_patterns 36 = .ok (.ishr, 1) := by decide +kernel
theorem dX8_patterns_37 : decode cX8_patterns 37 = .ok (.bipush 7, 2) := by decide +kernel
theorem dX8_patterns_39 : decode cX8_patterns 39 = .ok (.iand, 1) := by decide +kernel
theorem dX8_patterns_40 : decode cX8_patterns 40 = .ok (.bipush 6, 2) := by decide +kernel
theorem dX8_patterns_42 : decode cX8_patterns 42 = .ok (.if_icmp .gt 7, 3) := by decide +kernel
theorem dX8_patterns_45 : decode cX8_patterns 45 = .ok (.iconst 1, 1) := by decide +kernel
theorem dX8_patterns_46 : decode cX8_patterns 46 = .ok (.goto 4, 3) := by decide +kernel
theorem dX8_patterns_49 : decode cX8_patterns 49 = .ok (.iconst 0, 1) := by decide +kernel
theorem dX8_patterns_50 : decode cX8_patterns 50 = .ok (.istore_n 3, 1) := by decide +kernel
theorem dX8_patterns_51 : decode cX8_patterns 51 = .ok (.iinc 4 1, 3) := by decide +kernel
theorem dX8_patterns_54 : decode cX8_patterns 54 = .ok (.goto (-34), 3) := by decide +kernel
theorem dX8_patterns_57 : decode cX8_patterns 57 = .ok (.iload_n 3, 1) := by decide +kernel
theorem dX8_patterns_58 : decode cX8_patterns 58 = .ok (.ifCond .ne 6, 3) := by decide +kernel
theorem dX8_patterns_61 : decode cX8_patterns 61 = .ok (.bipush (-2), 2) := by decide +kernel
theorem dX8_patterns_63 : decode cX8_patterns 63 = .ok (.ireturn, 1) := by decide +kernel
theorem dX8_patterns_64 : decode cX8_patterns 64 = .ok (.aload_n 0, 1) := by decide +kernel
theorem dX8_patterns_65 : decode cX8_patterns 65 = .ok (.iload_n 1, 1) := by decide +kernel
theorem dX8_patterns_66 : decode cX8_patterns 66 = .ok (.invokevirtual 72, 3) := by decide +kernel
theorem dX8_patterns_69 : decode cX8_patterns 69 = .ok (.ifCond .ne 6, 3) := by decide +kernel
theorem dX8_patterns_72 : decode cX8_patterns 72 = .ok (.bipush (-5), 2) := by decide +kernel
theorem dX8_patterns_74 : decode cX8_patterns 74 = .ok (.ireturn, 1) := by decide +kernel
theorem dX8_patterns_75 : decode cX8_patterns 75 = .ok (.aload_n 0, 1) := by decide +kernel
theorem dX8_patterns_76 : decode cX8_patterns 76 = .ok (.getfield 7, 3) := by decide +kernel
theorem dX8_patterns_79 : decode cX8_patterns 79 = .ok (.bipush 18, 2) := by decide +kernel
theorem dX8_patterns_81 : decode cX8_patterns 81 = .ok (.iload_n 1, 1) := by decide +kernel
theorem dX8_patterns_82 : decode cX8_patterns 82 = .ok (.iadd, 1) := by decide +kernel
theorem dX8_patterns_83 : decode cX8_patterns 83 = .ok (.iaload, 1) := by decide +kernel
theorem dX8_patterns_84 : decode cX8_patterns 84 = .ok (.istore 4, 2) := by decide +kernel
theorem dX8_patterns_86 : decode cX8_patterns 86 = .ok (.aload_n 0, 1) := by decide +kernel
theorem dX8_patterns_87 : decode cX8_patterns 87 = .ok (.getfield 7, 3) := by decide +kernel
theorem dX8_patterns_90 : decode cX8_patterns 90 = .ok (.bipush 18, 2) := by decide +kernel
theorem dX8_patterns_92 : decode cX8_patterns 92 = .ok (.iload_n 1, 1) := by decide +kernel
theorem dX8_patterns_93 : decode cX8_patterns 93 = .ok (.iadd, 1) := by decide +kernel
theorem dX8_patterns_94 : decode cX8_patterns 94 = .ok (.iconst 1, 1) := by decide +kernel
theorem dX8_patterns_95 : decode cX8_patterns 95 = .ok (.iastore, 1) := by decide +kernel
theorem dX8_patterns_96 : decode cX8_patterns 96 = .ok (.iconst 0, 1) := by decide +kernel
theorem dX8_patterns_97 : decode cX8_patterns 97 = .ok (.istore 5, 2) := by decide +kernel
theorem dX8_patterns_99 : decode cX8_patterns 99 = .ok (.iload 5, 2) := by decide +kernel
theorem dX8_patterns_101 : decode cX8_patterns 101 = .ok (.bipush 8, 2) := by decide +kernel
theorem dX8_patterns_103 : decode cX8_patterns 103 = .ok (.if_icmp .ge 33, 3) := by decide +kernel
theorem dX8_patterns_106 : decode cX8_patterns 106 = .ok (.aload_n 0, 1) := by decide +kernel
theorem dX8_patterns_107 : decode cX8_patterns 107 = .ok (.getfield 7, 3) := by decide +kernel
theorem dX8_patterns_110 : decode cX8_patterns 110 = .ok (.bipush 23, 2) := by decide +kernel
theorem dX8_patterns_112 : decode cX8_patterns 112 = .ok (.bipush 8, 2) := by decide +kernel
theorem dX8_patterns_114 : decode cX8_patterns 114 = .ok (.iload_n 1, 1) := by decide +kernel
theorem dX8_patterns_115 : decode cX8_patterns 115 = .ok (.imul, 1) := by decide +kernel
theorem dX8_patterns_116 : decode cX8_patterns 116 = .ok (.iadd, 1) := by decide +kernel
theorem dX8_patterns_117 : decode cX8_patterns 117 = .ok (.iload 5, 2) := by decide +kernel
theorem dX8_patterns_119 : decode cX8_patterns 119 = .ok (.iadd, 1) := by decide +kernel
theorem dX8_patterns_120 : decode cX8_patterns 120 = .ok (.iload_n 2, 1) := by decide +kernel
theorem dX8_patterns_121 : decode cX8_patterns 121 = .ok (.iconst 3, 1) := by decide +kernel
theorem dX8_patterns_122 : decode cX8_patterns 122 = .ok (.iload 5, 2) := by decide +kernel
theorem dX8_patterns_124 : decode cX8_patterns 124 = .ok (.imul, 1) := by decide +kernel
theorem dX8_patterns_125 : decode cX8_patterns 125 = .ok (.ishr, 1) := by decide +kernel
theorem dX8_patterns_126 : decode cX8_patterns 126 = .ok (.bipush 7, 2) := by decide +kernel
theorem dX8_patterns_128 : decode cX8_patterns 128 = .ok (.iand, 1) := by decide +kernel
theorem dX8_patterns_129 : decode cX8_patterns 129 = .ok (.iastore, 1) := by decide +kernel
theorem dX8_patterns_130 : decode cX8_patterns 130 = .ok (.iinc 5 1, 3) := by decide +kernel
theorem dX8_patterns_133 : decode cX8_patterns 133 = .ok (.goto (-34), 3) := by decide +kernel
theorem dX8_patterns_136 : decode cX8_patterns 136 = .ok (.iload 4, 2) := by decide +kernel
theorem dX8_patterns_138 : decode cX8_patterns 138 = .ok (.ireturn, 1) := by decide +kernel
theorem dX8_holder_0 : decode cX8_holder 0 = .ok (.bipush (-6), 2) := by decide +kernel
theorem dX8_holder_2 : decode cX8_holder 2 = .ok (.istore_n 2, 1) := by decide +kernel
theorem dX8_holder_3 : decode cX8_holder 3 = .ok (.iconst 3, 1) := by decide +kernel
theorem dX8_holder_4 : decode cX8_holder 4 = .ok (.istore_n 3, 1) := by decide +kernel
theorem dX8_holder_5 : decode cX8_holder 5 = .ok (.iload_n 3, 1) := by decide +kernel
theorem dX8_holder_6 : decode cX8_holder 6 = .ok (.ifCond .lt 28, 3) := by decide +kernel
theorem dX8_holder_9 : decode cX8_holder 9 = .ok (.aload_n 0, 1) := by decide +kernel
theorem dX8_holder_10 : decode cX8_holder 10 = .ok (.getfield 7, 3) := by decide +kernel
theorem dX8_holder_13 : decode cX8_holder 13 = .ok (.bipush 8, 2) := by decide +kernel
theorem dX8_holder_15 : decode cX8_holder 15 = .ok (.iload_n 3, 1) := by decide +kernel
theorem dX8_holder_16 : decode cX8_holder 16 = .ok (.iadd, 1) := by decide +kernel
theorem dX8_holder_17 : decode cX8_holder 17 = .ok (.iaload, 1) := by decide +kernel
theorem dX8_holder_18 : decode cX8_holder 18 = .ok (.iload_n 1, 1) := by decide +kernel
theorem dX8_holder_19 : decode cX8_holder 19 = .ok (.if_icmp .ne 7, 3) := by decide +kernel
theorem dX8_holder_22 : decode cX8_holder 22 = .ok (.iload_n 3, 1) := by decide +kernel
theorem dX8_holder_23 : decode cX8_holder 23 = .ok (.goto 4, 3) := by decide +kernel
theorem dX8_holder_26 : decode cX8_holder 26 = .ok (.iload_n 2, 1) := by decide +kernel
theorem dX8_holder_27 : decode cX8_holder 27 = .ok (.istore_n 2, 1) := by decide +kernel
theorem dX8_holder_28 : decode cX8_holder 28 = .ok (.iinc 3 (-1), 3) := by decide +kernel
theorem dX8_holder_31 : decode cX8_holder 31 = .ok (.goto (-26), 3) := by decide +kernel
theorem dX8_holder_34 : decode cX8_holder 34 = .ok (.iload_n 2, 1) := by decide +kernel
theorem dX8_holder_35 : decode cX8_holder 35 = .ok (.ireturn, 1) := by decide +kernel
theorem dX8_takes_0 : decode cX8_takes 0 = .ok (.iload_n 1, 1) := by decide +kernel
theorem dX8_takes_1 : decode cX8_takes 1 = .ok (.invokestatic 43, 3) := by decide +kernel
theorem dX8_takes_4 : decode cX8_takes 4 = .ok (.ifCond .ne 5, 3) := by decide +kernel
theorem dX8_takes_7 : decode cX8_takes 7 = .ok (.iconst (-1), 1) := by decide +kernel
theorem dX8_takes_8 : decode cX8_takes 8 = .ok (.ireturn, 1) := by decide +kernel
theorem dX8_takes_9 : decode cX8_takes 9 = .ok (.iload_n 2, 1) := by decide +kernel
theorem dX8_takes_10 : decode cX8_takes 10 = .ok (.iconst 0, 1) := by decide +kernel
theorem dX8_takes_11 : decode cX8_takes 11 = .ok (.bipush 6, 2) := by decide +kernel
theorem dX8_takes_13 : decode cX8_takes 13 = .ok (.invokestatic 39, 3) := by decide +kernel
theorem dX8_takes_16 : decode cX8_takes 16 = .ok (.ifCond .ne 6, 3) := by decide +kernel
theorem dX8_takes_19 : decode cX8_takes 19 = .ok (.bipush (-2), 2) := by decide +kernel
theorem dX8_takes_21 : decode cX8_takes 21 = .ok (.ireturn, 1) := by decide +kernel
theorem dX8_takes_22 : decode cX8_takes 22 = .ok (.iload_n 2, 1) := by decide +kernel
theorem dX8_takes_23 : decode cX8_takes 23 = .ok (.ifCond .le 25, 3) := by decide +kernel
theorem dX8_takes_26 : decode cX8_takes 26 = .ok (.aload_n 0, 1) := by decide +kernel
theorem dX8_takes_27 : decode cX8_takes 27 = .ok (.iload_n 2, 1) := by decide +kernel
theorem dX8_takes_28 : decode cX8_takes 28 = .ok (.invokevirtual 75, 3) := by decide +kernel
theorem dX8_takes_31 : decode cX8_takes 31 = .ok (.bipush (-6), 2) := by decide +kernel
theorem dX8_takes_33 : decode cX8_takes 33 = .ok (.if_icmp .eq 15, 3) := by decide +kernel
theorem dX8_takes_36 : decode cX8_takes 36 = .ok (.aload_n 0, 1) := by decide +kernel
theorem dX8_takes_37 : decode cX8_takes 37 = .ok (.iload_n 2, 1) := by decide +kernel
theorem dX8_takes_38 : decode cX8_takes 38 = .ok (.invokevirtual 75, 3) := by decide +kernel
theorem dX8_takes_41 : decode cX8_takes 41 = .ok (.iload_n 1, 1) := by decide +kernel
theorem dX8_takes_42 : decode cX8_takes 42 = .ok (.if_icmp .eq 6, 3) := by decide +kernel
theorem dX8_takes_45 : decode cX8_takes 45 = .ok (.bipush (-5), 2) := by decide +kernel
theorem dX8_takes_47 : decode cX8_takes 47 = .ok (.ireturn, 1) := by decide +kernel
theorem dX8_takes_48 : decode cX8_takes 48 = .ok (.aload_n 0, 1) := by decide +kernel
theorem dX8_takes_49 : decode cX8_takes 49 = .ok (.getfield 7, 3) := by decide +kernel
theorem dX8_takes_52 : decode cX8_takes 52 = .ok (.bipush 8, 2) := by decide +kernel
theorem dX8_takes_54 : decode cX8_takes 54 = .ok (.iload_n 1, 1) := by decide +kernel
theorem dX8_takes_55 : decode cX8_takes 55 = .ok (.iadd, 1) := by decide +kernel
theorem dX8_takes_56 : decode cX8_takes 56 = .ok (.iaload, 1) := by decide +kernel
theorem dX8_takes_57 : decode cX8_takes 57 = .ok (.istore_n 3, 1) := by decide +kernel
theorem dX8_takes_58 : decode cX8_takes 58 = .ok (.aload_n 0, 1) := by decide +kernel
theorem dX8_takes_59 : decode cX8_takes 59 = .ok (.getfield 7, 3) := by decide +kernel
theorem dX8_takes_62 : decode cX8_takes 62 = .ok (.bipush 8, 2) := by decide +kernel
theorem dX8_takes_64 : decode cX8_takes 64 = .ok (.iload_n 1, 1) := by decide +kernel
theorem dX8_takes_65 : decode cX8_takes 65 = .ok (.iadd, 1) := by decide +kernel
theorem dX8_takes_66 : decode cX8_takes 66 = .ok (.iload_n 2, 1) := by decide +kernel
theorem dX8_takes_67 : decode cX8_takes 67 = .ok (.iastore, 1) := by decide +kernel
theorem dX8_takes_68 : decode cX8_takes 68 = .ok (.iload_n 3, 1) := by decide +kernel
theorem dX8_takes_69 : decode cX8_takes 69 = .ok (.ireturn, 1) := by decide +kernel
theorem dX8_pours_0 : decode cX8_pours 0 = .ok (.iload_n 1, 1) := by decide +kernel
theorem dX8_pours_1 : decode cX8_pours 1 = .ok (.iload_n 2, 1) := by decide +kernel
theorem dX8_pours_2 : decode cX8_pours 2 = .ok (.iload_n 3, 1) := by decide +kernel
theorem dX8_pours_3 : decode cX8_pours 3 = .ok (.invokestatic 79, 3) := by decide +kernel
theorem dX8_pours_6 : decode cX8_pours 6 = .ok (.ifCond .ne 5, 3) := by decide +kernel
theorem dX8_pours_9 : decode cX8_pours 9 = .ok (.iconst (-1), 1) := by decide +kernel
theorem dX8_pours_10 : decode cX8_pours 10 = .ok (.ireturn, 1) := by decide +kernel
theorem dX8_pours_11 : decode cX8_pours 11 = .ok (.iload 4, 2) := by decide +kernel
theorem dX8_pours_13 : decode cX8_pours 13 = .ok (.iconst 1, 1) := by decide +kernel
theorem dX8_pours_14 : decode cX8_pours 14 = .ok (.bipush 99, 2) := by decide +kernel
theorem dX8_pours_16 : decode cX8_pours 16 = .ok (.invokestatic 39, 3) := by decide +kernel
theorem dX8_pours_19 : decode cX8_pours 19 = .ok (.ifCond .ne 6, 3) := by decide +kernel
theorem dX8_pours_22 : decode cX8_pours 22 = .ok (.bipush (-2), 2) := by decide +kernel
theorem dX8_pours_24 : decode cX8_pours 24 = .ok (.ireturn, 1) := by decide +kernel
theorem dX8_pours_25 : decode cX8_pours 25 = .ok (.iload_n 1, 1) := by decide +kernel
theorem dX8_pours_26 : decode cX8_pours 26 = .ok (.iload_n 2, 1) := by decide +kernel
theorem dX8_pours_27 : decode cX8_pours 27 = .ok (.iload_n 3, 1) := by decide +kernel
theorem dX8_pours_28 : decode cX8_pours 28 = .ok (.invokestatic 61, 3) := by decide +kernel
theorem dX8_pours_31 : decode cX8_pours 31 = .ok (.istore 5, 2) := by decide +kernel
theorem dX8_pours_33 : decode cX8_pours 33 = .ok (.aload_n 0, 1) := by decide +kernel
theorem dX8_pours_34 : decode cX8_pours 34 = .ok (.getfield 7, 3) := by decide +kernel
theorem dX8_pours_37 : decode cX8_pours 37 = .ok (.bipush 8, 2) := by decide +kernel
theorem dX8_pours_39 : decode cX8_pours 39 = .ok (.iload_n 1, 1) := by decide +kernel
theorem dX8_pours_40 : decode cX8_pours 40 = .ok (.iadd, 1) := by decide +kernel
theorem dX8_pours_41 : decode cX8_pours 41 = .ok (.iaload, 1) := by decide +kernel
theorem dX8_pours_42 : decode cX8_pours 42 = .ok (.istore 6, 2) := by decide +kernel
theorem dX8_pours_44 : decode cX8_pours 44 = .ok (.iload 6, 2) := by decide +kernel
theorem dX8_pours_46 : decode cX8_pours 46 = .ok (.ifCond .le 41, 3) := by decide +kernel
theorem dX8_pours_49 : decode cX8_pours 49 = .ok (.aload_n 0, 1) := by decide +kernel
theorem dX8_pours_50 : decode cX8_pours 50 = .ok (.iload_n 2, 1) := by decide +kernel
theorem dX8_pours_51 : decode cX8_pours 51 = .ok (.invokevirtual 72, 3) := by decide +kernel
theorem dX8_pours_54 : decode cX8_pours 54 = .ok (.ifCond .eq 33, 3) := by decide +kernel
theorem dX8_pours_57 : decode cX8_pours 57 = .ok (.aload_n 0, 1) := by decide +kernel
theorem dX8_pours_58 : decode cX8_pours 58 = .ok (.getfield 7, 3) := by decide +kernel
theorem dX8_pours_61 : decode cX8_pours 61 = .ok (.iload 5, 2) := by decide +kernel
theorem dX8_pours_63 : decode cX8_pours 63 = .ok (.iconst 1, 1) := by decide +kernel
theorem dX8_pours_64 : decode cX8_pours 64 = .ok (.iadd, 1) := by decide +kernel
theorem dX8_pours_65 : decode cX8_pours 65 = .ok (.iaload, 1) := by decide +kernel
theorem dX8_pours_66 : decode cX8_pours 66 = .ok (.ifCond .eq 17, 3) := by decide +kernel
theorem dX8_pours_69 : decode cX8_pours 69 = .ok (.aload_n 0, 1) := by decide +kernel
theorem dX8_pours_70 : decode cX8_pours 70 = .ok (.getfield 7, 3) := by decide +kernel
theorem dX8_pours_73 : decode cX8_pours 73 = .ok (.iload 5, 2) := by decide +kernel
theorem dX8_pours_75 : decode cX8_pours 75 = .ok (.iconst 0, 1) := by decide +kernel
theorem dX8_pours_76 : decode cX8_pours 76 = .ok (.iadd, 1) := by decide +kernel
theorem dX8_pours_77 : decode cX8_pours 77 = .ok (.iaload, 1) := by decide +kernel
theorem dX8_pours_78 : decode cX8_pours 78 = .ok (.iload 6, 2) := by decide +kernel
theorem dX8_pours_80 : decode cX8_pours 80 = .ok (.if_icmp .ne 7, 3) := by decide +kernel
theorem dX8_pours_83 : decode cX8_pours 83 = .ok (.iconst 1, 1) := by decide +kernel
theorem dX8_pours_84 : decode cX8_pours 84 = .ok (.goto 4, 3) := by decide +kernel
theorem dX8_pours_87 : decode cX8_pours 87 = .ok (.iconst 0, 1) := by decide +kernel
theorem dX8_pours_88 : decode cX8_pours 88 = .ok (.istore 7, 2) := by decide +kernel
theorem dX8_pours_90 : decode cX8_pours 90 = .ok (.iload 7, 2) := by decide +kernel
theorem dX8_pours_92 : decode cX8_pours 92 = .ok (.ifCond .eq 18, 3) := by decide +kernel
theorem dX8_pours_95 : decode cX8_pours 95 = .ok (.aload_n 0, 1) := by decide +kernel
theorem dX8_pours_96 : decode cX8_pours 96 = .ok (.getfield 7, 3) := by decide +kernel
theorem dX8_pours_99 : decode cX8_pours 99 = .ok (.bipush 11, 2) := by decide +kernel
theorem dX8_pours_101 : decode cX8_pours 101 = .ok (.iload 6, 2) := by decide +kernel
theorem dX8_pours_103 : decode cX8_pours 103 = .ok (.iadd, 1) := by decide +kernel
theorem dX8_pours_104 : decode cX8_pours 104 = .ok (.iaload, 1) := by decide +kernel
theorem dX8_pours_105 : decode cX8_pours 105 = .ok (.iload 4, 2) := by decide +kernel
theorem dX8_pours_107 : decode cX8_pours 107 = .ok (.if_icmp .ge 6, 3) := by decide +kernel
theorem dX8_pours_110 : decode cX8_pours 110 = .ok (.bipush (-5), 2) := by decide +kernel
theorem dX8_pours_112 : decode cX8_pours 112 = .ok (.ireturn, 1) := by decide +kernel
theorem dX8_pours_113 : decode cX8_pours 113 = .ok (.aload_n 0, 1) := by decide +kernel
theorem dX8_pours_114 : decode cX8_pours 114 = .ok (.getfield 7, 3) := by decide +kernel
theorem dX8_pours_117 : decode cX8_pours 117 = .ok (.iload 5, 2) := by decide +kernel
theorem dX8_pours_119 : decode cX8_pours 119 = .ok (.iconst 1, 1) := by decide +kernel
theorem dX8_pours_120 : decode cX8_pours 120 = .ok (.iadd, 1) := by decide +kernel
theorem dX8_pours_121 : decode cX8_pours 121 = .ok (.iaload, 1) := by decide +kernel
theorem dX8_pours_122 : decode cX8_pours 122 = .ok (.iload 4, 2) := by decide +kernel
theorem dX8_pours_124 : decode cX8_pours 124 = .ok (.iadd, 1) := by decide +kernel
theorem dX8_pours_125 : decode cX8_pours 125 = .ok (.bipush 99, 2) := by decide +kernel
theorem dX8_pours_127 : decode cX8_pours 127 = .ok (.if_icmp .le 6, 3) := by decide +kernel
theorem dX8_pours_130 : decode cX8_pours 130 = .ok (.bipush (-4), 2) := by decide +kernel
theorem dX8_pours_132 : decode cX8_pours 132 = .ok (.ireturn, 1) := by decide +kernel
theorem dX8_pours_133 : decode cX8_pours 133 = .ok (.aload_n 0, 1) := by decide +kernel
theorem dX8_pours_134 : decode cX8_pours 134 = .ok (.getfield 7, 3) := by decide +kernel
theorem dX8_pours_137 : decode cX8_pours 137 = .ok (.bipush 11, 2) := by decide +kernel
theorem dX8_pours_139 : decode cX8_pours 139 = .ok (.iload 6, 2) := by decide +kernel
theorem dX8_pours_141 : decode cX8_pours 141 = .ok (.iadd, 1) := by decide +kernel
theorem dX8_pours_142 : decode cX8_pours 142 = .ok (.dup2, 1) := by decide +kernel
theorem dX8_pours_143 : decode cX8_pours 143 = .ok (.iaload, 1) := by decide +kernel
theorem dX8_pours_144 : decode cX8_pours 144 = .ok (.iload 4, 2) := by decide +kernel
theorem dX8_pours_146 : decode cX8_pours 146 = .ok (.isub, 1) := by decide +kernel
theorem dX8_pours_147 : decode cX8_pours 147 = .ok (.iastore, 1) := by decide +kernel
theorem dX8_pours_148 : decode cX8_pours 148 = .ok (.aload_n 0, 1) := by decide +kernel
theorem dX8_pours_149 : decode cX8_pours 149 = .ok (.getfield 7, 3) := by decide +kernel
theorem dX8_pours_152 : decode cX8_pours 152 = .ok (.iconst 5, 1) := by decide +kernel
theorem dX8_pours_153 : decode cX8_pours 153 = .ok (.dup2, 1) := by decide +kernel
theorem dX8_pours_154 : decode cX8_pours 154 = .ok (.iaload, 1) := by decide +kernel
theorem dX8_pours_155 : decode cX8_pours 155 = .ok (.iload 4, 2) := by decide +kernel
theorem dX8_pours_157 : decode cX8_pours 157 = .ok (.iadd, 1) := by decide +kernel
theorem dX8_pours_158 : decode cX8_pours 158 = .ok (.iastore, 1) := by decide +kernel
theorem dX8_pours_159 : decode cX8_pours 159 = .ok (.aload_n 0, 1) := by decide +kernel
theorem dX8_pours_160 : decode cX8_pours 160 = .ok (.iload 5, 2) := by decide +kernel
theorem dX8_pours_162 : decode cX8_pours 162 = .ok (.iload 6, 2) := by decide +kernel
theorem dX8_pours_164 : decode cX8_pours 164 = .ok (.aload_n 0, 1) := by decide +kernel
theorem dX8_pours_165 : decode cX8_pours 165 = .ok (.getfield 7, 3) := by decide +kernel
theorem dX8_pours_168 : decode cX8_pours 168 = .ok (.iload 5, 2) := by decide +kernel
theorem dX8_pours_170 : decode cX8_pours 170 = .ok (.iconst 1, 1) := by decide +kernel
theorem dX8_pours_171 : decode cX8_pours 171 = .ok (.iadd, 1) := by decide +kernel
theorem dX8_pours_172 : decode cX8_pours 172 = .ok (.iaload, 1) := by decide +kernel
theorem dX8_pours_173 : decode cX8_pours 173 = .ok (.iload 4, 2) := by decide +kernel
theorem dX8_pours_175 : decode cX8_pours 175 = .ok (.iadd, 1) := by decide +kernel
theorem dX8_pours_176 : decode cX8_pours 176 = .ok (.invokevirtual 82, 3) := by decide +kernel
theorem dX8_pours_179 : decode cX8_pours 179 = .ok (.aload_n 0, 1) := by decide +kernel
theorem dX8_pours_180 : decode cX8_pours 180 = .ok (.getfield 7, 3) := by decide +kernel
theorem dX8_pours_183 : decode cX8_pours 183 = .ok (.iload 5, 2) := by decide +kernel
theorem dX8_pours_185 : decode cX8_pours 185 = .ok (.iconst 1, 1) := by decide +kernel
theorem dX8_pours_186 : decode cX8_pours 186 = .ok (.iadd, 1) := by decide +kernel
theorem dX8_pours_187 : decode cX8_pours 187 = .ok (.iaload, 1) := by decide +kernel
theorem dX8_pours_188 : decode cX8_pours 188 = .ok (.ireturn, 1) := by decide +kernel
theorem dX8_scrapes_0 : decode cX8_scrapes 0 = .ok (.iload_n 1, 1) := by decide +kernel
theorem dX8_scrapes_1 : decode cX8_scrapes 1 = .ok (.iload_n 2, 1) := by decide +kernel
theorem dX8_scrapes_2 : decode cX8_scrapes 2 = .ok (.iload_n 3, 1) := by decide +kernel
theorem dX8_scrapes_3 : decode cX8_scrapes 3 = .ok (.invokestatic 79, 3) := by decide +kernel
theorem dX8_scrapes_6 : decode cX8_scrapes 6 = .ok (.ifCond .ne 5, 3) := by decide +kernel
theorem dX8_scrapes_9 : decode cX8_scrapes 9 = .ok (.iconst (-1), 1) := by decide +kernel
theorem dX8_scrapes_10 : decode cX8_scrapes 10 = .ok (.ireturn, 1) := by decide +kernel
theorem dX8_scrapes_11 : decode cX8_scrapes 11 = .ok (.iload_n 1, 1) := by decide +kernel
theorem dX8_scrapes_12 : decode cX8_scrapes 12 = .ok (.iload_n 2, 1) := by decide +kernel
theorem dX8_scrapes_13 : decode cX8_scrapes 13 = .ok (.iload_n 3, 1) := by decide +kernel
theorem dX8_scrapes_14 : decode cX8_scrapes 14 = .ok (.invokestatic 61, 3) := by decide +kernel
theorem dX8_scrapes_17 : decode cX8_scrapes 17 = .ok (.istore 4, 2) := by decide +kernel
theorem dX8_scrapes_19 : decode cX8_scrapes 19 = .ok (.aload_n 0, 1) := by decide +kernel
theorem dX8_scrapes_20 : decode cX8_scrapes 20 = .ok (.getfield 7, 3) := by decide +kernel
theorem dX8_scrapes_23 : decode cX8_scrapes 23 = .ok (.iload 4, 2) := by decide +kernel
theorem dX8_scrapes_25 : decode cX8_scrapes 25 = .ok (.iconst 1, 1) := by decide +kernel
theorem dX8_scrapes_26 : decode cX8_scrapes 26 = .ok (.iadd, 1) := by decide +kernel
theorem dX8_scrapes_27 : decode cX8_scrapes 27 = .ok (.iaload, 1) := by decide +kernel
theorem dX8_scrapes_28 : decode cX8_scrapes 28 = .ok (.istore 5, 2) := by decide +kernel
theorem dX8_scrapes_30 : decode cX8_scrapes 30 = .ok (.aload_n 0, 1) := by decide +kernel
theorem dX8_scrapes_31 : decode cX8_scrapes 31 = .ok (.iload_n 2, 1) := by decide +kernel
theorem dX8_scrapes_32 : decode cX8_scrapes 32 = .ok (.invokevirtual 72, 3) := by decide +kernel
theorem dX8_scrapes_35 : decode cX8_scrapes 35 = .ok (.ifCond .eq 8, 3) := by decide +kernel
theorem dX8_scrapes_38 : decode cX8_scrapes 38 = .ok (.iload 5, 2) := by decide +kernel
theorem dX8_scrapes_40 : decode cX8_scrapes 40 = .ok (.ifCond .ne 6, 3) := by decide +kernel
theorem dX8_scrapes_43 : decode cX8_scrapes 43 = .ok (.bipush (-5), 2) := by decide +kernel
theorem dX8_scrapes_45 : decode cX8_scrapes 45 = .ok (.ireturn, 1) := by decide +kernel
theorem dX8_scrapes_46 : decode cX8_scrapes 46 = .ok (.aload_n 0, 1) := by decide +kernel
theorem dX8_scrapes_47 : decode cX8_scrapes 47 = .ok (.getfield 7, 3) := by decide +kernel
theorem dX8_scrapes_50 : decode cX8_scrapes 50 = .ok (.bipush 6, 2) := by decide +kernel
theorem dX8_scrapes_52 : decode cX8_scrapes 52 = .ok (.dup2, 1) := by decide +kernel
theorem dX8_scrapes_53 : decode cX8_scrapes 53 = .ok (.iaload, 1) := by decide +kernel
theorem dX8_scrapes_54 : decode cX8_scrapes 54 = .ok (.iload 5, 2) := by decide +kernel
theorem dX8_scrapes_56 : decode cX8_scrapes 56 = .ok (.iadd, 1) := by decide +kernel
theorem dX8_scrapes_57 : decode cX8_scrapes 57 = .ok (.iastore, 1) := by decide +kernel
theorem dX8_scrapes_58 : decode cX8_scrapes 58 = .ok (.aload_n 0, 1) := by decide +kernel
theorem dX8_scrapes_59 : decode cX8_scrapes 59 = .ok (.iload 4, 2) := by decide +kernel
theorem dX8_scrapes_61 : decode cX8_scrapes 61 = .ok (.iconst 0, 1) := by decide +kernel
theorem dX8_scrapes_62 : decode cX8_scrapes 62 = .ok (.iconst 0, 1) := by decide +kernel
theorem dX8_scrapes_63 : decode cX8_scrapes 63 = .ok (.invokevirtual 82, 3) := by decide +kernel
theorem dX8_scrapes_66 : decode cX8_scrapes 66 = .ok (.iload 5, 2) := by decide +kernel
theorem dX8_scrapes_68 : decode cX8_scrapes 68 = .ok (.ireturn, 1) := by decide +kernel
theorem dX8_spills_0 : decode cX8_spills 0 = .ok (.aload_n 0, 1) := by decide +kernel
theorem dX8_spills_1 : decode cX8_spills 1 = .ok (.getfield 29, 3) := by decide +kernel
theorem dX8_spills_4 : decode cX8_spills 4 = .ok (.iconst 2, 1) := by decide +kernel
theorem dX8_spills_5 : decode cX8_spills 5 = .ok (.iload_n 1, 1) := by decide +kernel
theorem dX8_spills_6 : decode cX8_spills 6 = .ok (.imul, 1) := by decide +kernel
theorem dX8_spills_7 : decode cX8_spills 7 = .ok (.iconst 1, 1) := by decide +kernel
theorem dX8_spills_8 : decode cX8_spills 8 = .ok (.iadd, 1) := by decide +kernel
theorem dX8_spills_9 : decode cX8_spills 9 = .ok (.iaload, 1) := by decide +kernel
theorem dX8_spills_10 : decode cX8_spills 10 = .ok (.aload_n 0, 1) := by decide +kernel
theorem dX8_spills_11 : decode cX8_spills 11 = .ok (.getfield 7, 3) := by decide +kernel
theorem dX8_spills_14 : decode cX8_spills 14 = .ok (.iconst 1, 1) := by decide +kernel
theorem dX8_spills_15 : decode cX8_spills 15 = .ok (.iaload, 1) := by decide +kernel
theorem dX8_spills_16 : decode cX8_spills 16 = .ok (.isub, 1) := by decide +kernel
theorem dX8_spills_17 : decode cX8_spills 17 = .ok (.istore_n 2, 1) := by decide +kernel
theorem dX8_spills_18 : decode cX8_spills 18 = .ok (.iload_n 2, 1) := by decide +kernel
theorem dX8_spills_19 : decode cX8_spills 19 = .ok (.ifCond .le 9, 3) := by decide +kernel
theorem dX8_spills_22 : decode cX8_spills 22 = .ok (.iload_n 2, 1) := by decide +kernel
theorem dX8_spills_23 : decode cX8_spills 23 = .ok (.iconst 2, 1) := by decide +kernel
theorem dX8_spills_24 : decode cX8_spills 24 = .ok (.idiv, 1) := by decide +kernel
theorem dX8_spills_25 : decode cX8_spills 25 = .ok (.goto 4, 3) := by decide +kernel
theorem dX8_spills_28 : decode cX8_spills 28 = .ok (.iconst 0, 1) := by decide +kernel
theorem dX8_spills_29 : decode cX8_spills 29 = .ok (.ireturn, 1) := by decide +kernel
theorem dX8_ringBreath_0 : decode cX8_ringBreath 0 = .ok (.iconst 0, 1) := by decide +kernel
theorem dX8_ringBreath_1 : decode cX8_ringBreath 1 = .ok (.istore 4, 2) := by decide +kernel
theorem dX8_ringBreath_3 : decode cX8_ringBreath 3 = .ok (.iconst 0, 1) := by decide +kernel
theorem dX8_ringBreath_4 : decode cX8_ringBreath 4 = .ok (.istore 5, 2) := by decide +kernel
theorem dX8_ringBreath_6 : decode cX8_ringBreath 6 = .ok (.iload 5, 2) := by decide +kernel
theorem dX8_ringBreath_8 : decode cX8_ringBreath 8 = .ok (.bipush 16, 2) := by decide +kernel
theorem dX8_ringBreath_10 : decode cX8_ringBreath 10 = .ok (.if_icmp .ge 30, 3) := by decide +kernel
theorem dX8_ringBreath_13 : decode cX8_ringBreath 13 = .ok (.aload_n 0, 1) := by decide +kernel
theorem dX8_ringBreath_14 : decode cX8_ringBreath 14 = .ok (.getfield 29, 3) := by decide +kernel
theorem dX8_ringBreath_17 : decode cX8_ringBreath 17 = .ok (.iload 5, 2) := by decide +kernel
theorem dX8_ringBreath_19 : decode cX8_ringBreath 19 = .ok (.aload_n 0, 1) := by decide +kernel
theorem dX8_ringBreath_20 : decode cX8_ringBreath 20 = .ok (.getfield 7, 3) := by decide +kernel
theorem dX8_ringBreath_23 : decode cX8_ringBreath 23 = .ok (.iload_n 1, 1) := by decide +kernel
theorem dX8_ringBreath_24 : decode cX8_ringBreath 24 = .ok (.iload_n 2, 1) := by decide +kernel
theorem dX8_ringBreath_25 : decode cX8_ringBreath 25 = .ok (.iconst 0, 1) := by decide +kernel
theorem dX8_ringBreath_26 : decode cX8_ringBreath 26 = .ok (.invokestatic 61, 3) := by decide +kernel
theorem dX8_ringBreath_29 : decode cX8_ringBreath 29 = .ok (.iload 5, 2) := by decide +kernel
theorem dX8_ringBreath_31 : decode cX8_ringBreath 31 = .ok (.iadd, 1) := by decide +kernel
theorem dX8_ringBreath_32 : decode cX8_ringBreath 32 = .ok (.iaload, 1) := by decide +kernel
theorem dX8_ringBreath_33 : decode cX8_ringBreath 33 = .ok (.iastore, 1) := by decide +kernel
theorem dX8_ringBreath_34 : decode cX8_ringBreath 34 = .ok (.iinc 5 1, 3) := by decide +kernel
theorem dX8_ringBreath_37 : decode cX8_ringBreath 37 = .ok (.goto (-31), 3) := by decide +kernel
theorem dX8_ringBreath_40 : decode cX8_ringBreath 40 = .ok (.iconst 0, 1) := by decide +kernel
theorem dX8_ringBreath_41 : decode cX8_ringBreath 41 = .ok (.istore 5, 2) := by decide +kernel
theorem dX8_ringBreath_43 : decode cX8_ringBreath 43 = .ok (.iload 5, 2) := by decide +kernel
theorem dX8_ringBreath_45 : decode cX8_ringBreath 45 = .ok (.bipush 8, 2) := by decide +kernel
theorem dX8_ringBreath_47 : decode cX8_ringBreath 47 = .ok (.if_icmp .ge 183, 3) := by decide +kernel
theorem dX8_ringBreath_50 : decode cX8_ringBreath 50 = .ok (.iload 5, 2) := by decide +kernel
theorem dX8_ringBreath_52 : decode cX8_ringBreath 52 = .ok (.iload_n 3, 1) := by decide +kernel
theorem dX8_ringBreath_53 : decode cX8_ringBreath 53 = .ok (.iconst 1, 1) := by decide +kernel
theorem dX8_ringBreath_54 : decode cX8_ringBreath 54 = .ok (.if_icmp .ne 7, 3) := by decide +kernel
theorem dX8_ringBreath_57 : decode cX8_ringBreath 57 = .ok (.iconst 1, 1) := by decide +kernel
theorem dX8_ringBreath_58 : decode cX8_ringBreath 58 = .ok (.goto 5, 3) := by decide +kernel
theorem dX8_ringBreath_61 : decode cX8_ringBreath 61 = .ok (.bipush 7, 2) := by decide +kernel
theorem dX8_ringBreath_63 : decode cX8_ringBreath 63 = .ok (.iadd, 1) := by decide +kernel
theorem dX8_ringBreath_64 : decode cX8_ringBreath 64 = .ok (.bipush 8, 2) := by decide +kernel
theorem dX8_ringBreath_66 : decode cX8_ringBreath 66 = .ok (.irem, 1) := by decide +kernel
theorem dX8_ringBreath_67 : decode cX8_ringBreath 67 = .ok (.istore 6, 2) := by decide +kernel
theorem dX8_ringBreath_69 : decode cX8_ringBreath 69 = .ok (.aload_n 0, 1) := by decide +kernel
theorem dX8_ringBreath_70 : decode cX8_ringBreath 70 = .ok (.iload 6, 2) := by decide +kernel
theorem dX8_ringBreath_72 : decode cX8_ringBreath 72 = .ok (.invokevirtual 86, 3) := by decide +kernel
theorem dX8_ringBreath_75 : decode cX8_ringBreath 75 = .ok (.istore 7, 2) := by decide +kernel
theorem dX8_ringBreath_77 : decode cX8_ringBreath 77 = .ok (.aload_n 0, 1) := by decide +kernel
theorem dX8_ringBreath_78 : decode cX8_ringBreath 78 = .ok (.getfield 29, 3) := by decide +kernel
theorem dX8_ringBreath_81 : decode cX8_ringBreath 81 = .ok (.iconst 2, 1) := by decide +kernel
theorem dX8_ringBreath_82 : decode cX8_ringBreath 82 = .ok (.iload 5, 2) := by decide +kernel
theorem dX8_ringBreath_84 : decode cX8_ringBreath 84 = .ok (.imul, 1) := by decide +kernel
theorem dX8_ringBreath_85 : decode cX8_ringBreath 85 = .ok (.iconst 0, 1) := by decide +kernel
theorem dX8_ringBreath_86 : decode cX8_ringBreath 86 = .ok (.iadd, 1) := by decide +kernel
theorem dX8_ringBreath_87 : decode cX8_ringBreath 87 = .ok (.iaload, 1) := by decide +kernel
theorem dX8_ringBreath_88 : decode cX8_ringBreath 88 = .ok (.istore 8, 2) := by decide +kernel
theorem dX8_ringBreath_90 : decode cX8_ringBreath 90 = .ok (.iload 8, 2) := by decide +kernel
theorem dX8_ringBreath_92 : decode cX8_ringBreath 92 = .ok (.ifCond .eq 19, 3) := by decide +kernel
theorem dX8_ringBreath_95 : decode cX8_ringBreath 95 = .ok (.iload 8, 2) := by decide +kernel
theorem dX8_ringBreath_97 : decode cX8_ringBreath 97 = .ok (.aload_n 0, 1) := by decide +kernel
theorem dX8_ringBreath_98 : decode cX8_ringBreath 98 = .ok (.getfield 29, 3) := by decide +kernel
theorem dX8_ringBreath_101 : decode cX8_ringBreath 101 = .ok (.iconst 2, 1) := by decide +kernel
theorem dX8_ringBreath_102 : decode cX8_ringBreath 102 = .ok (.iload 6, 2) := by decide +kernel
theorem dX8_ringBreath_104 : decode cX8_ringBreath 104 = .ok (.imul, 1) := by decide +kernel
theorem dX8_ringBreath_105 : decode cX8_ringBreath 105 = .ok (.iconst 0, 1) := by decide +kernel
theorem dX8_ringBreath_106 : decode cX8_ringBreath 106 = .ok (.iadd, 1) := by decide +kernel
theorem dX8_ringBreath_107 : decode cX8_ringBreath 107 = .ok (.iaload, 1) := by decide +kernel
theorem dX8_ringBreath_108 : decode cX8_ringBreath 108 = .ok (.if_icmp .ne 7, 3) := by decide +kernel
theorem dX8_ringBreath_111 : decode cX8_ringBreath 111 = .ok (.iconst 1, 1) := by decide +kernel
theorem dX8_ringBreath_112 : decode cX8_ringBreath 112 = .ok (.goto 4, 3) := by decide +kernel
theorem dX8_ringBreath_115 : decode cX8_ringBreath 115 = .ok (.iconst 0, 1) := by decide +kernel
theorem dX8_ringBreath_116 : decode cX8_ringBreath 116 = .ok (.istore 9, 2) := by decide +kernel
theorem dX8_ringBreath_118 : decode cX8_ringBreath 118 = .ok (.aload_n 0, 1) := by decide +kernel
theorem dX8_ringBreath_119 : decode cX8_ringBreath 119 = .ok (.getfield 29, 3) := by decide +kernel
theorem dX8_ringBreath_122 : decode cX8_ringBreath 122 = .ok (.iconst 2, 1) := by decide +kernel
theorem dX8_ringBreath_123 : decode cX8_ringBreath 123 = .ok (.iload 5, 2) := by decide +kernel
theorem dX8_ringBreath_125 : decode cX8_ringBreath 125 = .ok (.imul, 1) := by decide +kernel
theorem dX8_ringBreath_126 : decode cX8_ringBreath 126 = .ok (.iconst 1, 1) := by decide +kernel
theorem dX8_ringBreath_127 : decode cX8_ringBreath 127 = .ok (.iadd, 1) := by decide +kernel
theorem dX8_ringBreath_128 : decode cX8_ringBreath 128 = .ok (.iaload, 1) := by decide +kernel
theorem dX8_ringBreath_129 : decode cX8_ringBreath 129 = .ok (.aload_n 0, 1) := by decide +kernel
theorem dX8_ringBreath_130 : decode cX8_ringBreath 130 = .ok (.iload 5, 2) := by decide +kernel
theorem dX8_ringBreath_132 : decode cX8_ringBreath 132 = .ok (.invokevirtual 86, 3) := by decide +kernel
theorem dX8_ringBreath_135 : decode cX8_ringBreath 135 = .ok (.isub, 1) := by decide +kernel
theorem dX8_ringBreath_136 : decode cX8_ringBreath 136 = .ok (.iload 9, 2) := by decide +kernel
theorem dX8_ringBreath_138 : decode cX8_ringBreath 138 = .ok (.ifCond .eq 8, 3) := by decide +kernel
theorem dX8_ringBreath_141 : decode cX8_ringBreath 141 = .ok (.iload 7, 2) := by decide +kernel
theorem dX8_ringBreath_143 : decode cX8_ringBreath 143 = .ok (.goto 4, 3) := by decide +kernel
theorem dX8_ringBreath_146 : decode cX8_ringBreath 146 = .ok (.iconst 0, 1) := by decide +kernel
theorem dX8_ringBreath_147 : decode cX8_ringBreath 147 = .ok (.iadd, 1) := by decide +kernel
theorem dX8_ringBreath_148 : decode cX8_ringBreath 148 = .ok (.istore 10, 2) := by decide +kernel
theorem dX8_ringBreath_150 : decode cX8_ringBreath 150 = .ok (.iload 10, 2) := by decide +kernel
theorem dX8_ringBreath_152 : decode cX8_ringBreath 152 = .ok (.bipush 99, 2) := by decide +kernel
theorem dX8_ringBreath_154 : decode cX8_ringBreath 154 = .ok (.if_icmp .le 11, 3) := by decide +kernel
theorem dX8_ringBreath_157 : decode cX8_ringBreath 157 = .ok (.iload 10, 2) := by decide +kernel
theorem dX8_ringBreath_159 : decode cX8_ringBreath 159 = .ok (.bipush 99, 2) := by decide +kernel
theorem dX8_ringBreath_161 : decode cX8_ringBreath 161 = .ok (.isub, 1) := by decide +kernel
theorem dX8_ringBreath_162 : decode cX8_ringBreath 162 = .ok (.goto 4, 3) := by decide +kernel
theorem dX8_ringBreath_165 : decode cX8_ringBreath 165 = .ok (.iconst 0, 1) := by decide +kernel
theorem dX8_ringBreath_166 : decode cX8_ringBreath 166 = .ok (.istore 11, 2) := by decide +kernel
theorem dX8_ringBreath_168 : decode cX8_ringBreath 168 = .ok (.iload 4, 2) := by decide +kernel
theorem dX8_ringBreath_170 : decode cX8_ringBreath 170 = .ok (.iload 9, 2) := by decide +kernel
theorem dX8_ringBreath_172 : decode cX8_ringBreath 172 = .ok (.ifCond .eq 7, 3) := by decide +kernel
theorem dX8_ringBreath_175 : decode cX8_ringBreath 175 = .ok (.iconst 0, 1) := by decide +kernel
theorem dX8_ringBreath_176 : decode cX8_ringBreath 176 = .ok (.goto 5, 3) := by decide +kernel
theorem dX8_ringBreath_179 : decode cX8_ringBreath 179 = .ok (.iload 7, 2) := by decide +kernel
theorem dX8_ringBreath_181 : decode cX8_ringBreath 181 = .ok (.iload 11, 2) := by decide +kernel
theorem dX8_ringBreath_183 : decode cX8_ringBreath 183 = .ok (.iadd, 1) := by decide +kernel
theorem dX8_ringBreath_184 : decode cX8_ringBreath 184 = .ok (.iadd, 1) := by decide +kernel
theorem dX8_ringBreath_185 : decode cX8_ringBreath 185 = .ok (.istore 4, 2) := by decide +kernel
theorem dX8_ringBreath_187 : decode cX8_ringBreath 187 = .ok (.aload_n 0, 1) := by decide +kernel
theorem dX8_ringBreath_188 : decode cX8_ringBreath 188 = .ok (.iload_n 1, 1) := by decide +kernel
theorem dX8_ringBreath_189 : decode cX8_ringBreath 189 = .ok (.iload_n 2, 1) := by decide +kernel
theorem dX8_ringBreath_190 : decode cX8_ringBreath 190 = .ok (.iload 5, 2) := by decide +kernel
theorem dX8_ringBreath_192 : decode cX8_ringBreath 192 = .ok (.invokestatic 61, 3) := by decide +kernel
theorem dX8_ringBreath_195 : decode cX8_ringBreath 195 = .ok (.iload 8, 2) := by decide +kernel
theorem dX8_ringBreath_197 : decode cX8_ringBreath 197 = .ok (.ifCond .ne 17, 3) := by decide +kernel
theorem dX8_ringBreath_200 : decode cX8_ringBreath 200 = .ok (.aload_n 0, 1) := by decide +kernel
theorem dX8_ringBreath_201 : decode cX8_ringBreath 201 = .ok (.getfield 29, 3) := by decide +kernel
theorem dX8_ringBreath_204 : decode cX8_ringBreath 204 = .ok (.iconst 2, 1) := by decide +kernel
theorem dX8_ringBreath_205 : decode cX8_ringBreath 205 = .ok (.iload 6, 2) := by decide +kernel
theorem dX8_ringBreath_207 : decode cX8_ringBreath 207 = .ok (.imul, 1) := by decide +kernel
theorem dX8_ringBreath_208 : decode cX8_ringBreath 208 = .ok (.iconst 0, 1) := by decide +kernel
theorem dX8_ringBreath_209 : decode cX8_ringBreath 209 = .ok (.iadd, 1) := by decide +kernel
theorem dX8_ringBreath_210 : decode cX8_ringBreath 210 = .ok (.iaload, 1) := by decide +kernel
theorem dX8_ringBreath_211 : decode cX8_ringBreath 211 = .ok (.goto 5, 3) := by decide +kernel
theorem dX8_ringBreath_214 : decode cX8_ringBreath 214 = .ok (.iload 8, 2) := by decide +kernel
theorem dX8_ringBreath_216 : decode cX8_ringBreath 216 = .ok (.iload 10, 2) := by decide +kernel
theorem dX8_ringBreath_218 : decode cX8_ringBreath 218 = .ok (.iload 11, 2) := by decide +kernel
theorem dX8_ringBreath_220 : decode cX8_ringBreath 220 = .ok (.isub, 1) := by decide +kernel
theorem dX8_ringBreath_221 : decode cX8_ringBreath 221 = .ok (.invokevirtual 82, 3) := by decide +kernel
theorem dX8_ringBreath_224 : decode cX8_ringBreath 224 = .ok (.iinc 5 1, 3) := by decide +kernel
theorem dX8_ringBreath_227 : decode cX8_ringBreath 227 = .ok (.goto (-184), 3) := by decide +kernel
theorem dX8_ringBreath_230 : decode cX8_ringBreath 230 = .ok (.iload 4, 2) := by decide +kernel
theorem dX8_ringBreath_232 : decode cX8_ringBreath 232 = .ok (.ireturn, 1) := by decide +kernel
theorem dX8_breathes_0 : decode cX8_breathes 0 = .ok (.iload_n 1, 1) := by decide +kernel
theorem dX8_breathes_1 : decode cX8_breathes 1 = .ok (.invokestatic 43, 3) := by decide +kernel
theorem dX8_breathes_4 : decode cX8_breathes 4 = .ok (.ifCond .ne 5, 3) := by decide +kernel
theorem dX8_breathes_7 : decode cX8_breathes 7 = .ok (.iconst (-1), 1) := by decide +kernel
theorem dX8_breathes_8 : decode cX8_breathes 8 = .ok (.ireturn, 1) := by decide +kernel
theorem dX8_breathes_9 : decode cX8_breathes 9 = .ok (.iload_n 2, 1) := by decide +kernel
theorem dX8_breathes_10 : decode cX8_breathes 10 = .ok (.iconst 0, 1) := by decide +kernel
theorem dX8_breathes_11 : decode cX8_breathes 11 = .ok (.iconst 1, 1) := by decide +kernel
theorem dX8_breathes_12 : decode cX8_breathes 12 = .ok (.invokestatic 39, 3) := by decide +kernel
theorem dX8_breathes_15 : decode cX8_breathes 15 = .ok (.ifCond .ne 6, 3) := by decide +kernel
theorem dX8_breathes_18 : decode cX8_breathes 18 = .ok (.bipush (-2), 2) := by decide +kernel
theorem dX8_breathes_20 : decode cX8_breathes 20 = .ok (.ireturn, 1) := by decide +kernel
theorem dX8_breathes_21 : decode cX8_breathes 21 = .ok (.iconst 0, 1) := by decide +kernel
theorem dX8_breathes_22 : decode cX8_breathes 22 = .ok (.istore_n 3, 1) := by decide +kernel
theorem dX8_breathes_23 : decode cX8_breathes 23 = .ok (.aload_n 0, 1) := by decide +kernel
theorem dX8_breathes_24 : decode cX8_breathes 24 = .ok (.getfield 7, 3) := by decide +kernel
theorem dX8_breathes_27 : decode cX8_breathes 27 = .ok (.iconst 3, 1) := by decide +kernel
theorem dX8_breathes_28 : decode cX8_breathes 28 = .ok (.iaload, 1) := by decide +kernel
theorem dX8_breathes_29 : decode cX8_breathes 29 = .ok (.istore 4, 2) := by decide +kernel
theorem dX8_breathes_31 : decode cX8_breathes 31 = .ok (.iload 4, 2) := by decide +kernel
theorem dX8_breathes_33 : decode cX8_breathes 33 = .ok (.iconst 5, 1) := by decide +kernel
theorem dX8_breathes_34 : decode cX8_breathes 34 = .ok (.if_icmp .ge 20, 3) := by decide +kernel
theorem dX8_breathes_37 : decode cX8_breathes 37 = .ok (.iload_n 3, 1) := by decide +kernel
theorem dX8_breathes_38 : decode cX8_breathes 38 = .ok (.aload_n 0, 1) := by decide +kernel
theorem dX8_breathes_39 : decode cX8_breathes 39 = .ok (.iload_n 1, 1) := by decide +kernel
theorem dX8_breathes_40 : decode cX8_breathes 40 = .ok (.iload 4, 2) := by decide +kernel
theorem dX8_breathes_42 : decode cX8_breathes 42 = .ok (.iload_n 2, 1) := by decide +kernel
theorem dX8_breathes_43 : decode cX8_breathes 43 = .ok (.invokevirtual 89, 3) := by decide +kernel
theorem dX8_breathes_46 : decode cX8_breathes 46 = .ok (.iadd, 1) := by decide +kernel
theorem dX8_breathes_47 : decode cX8_breathes 47 = .ok (.istore_n 3, 1) := by decide +kernel
theorem dX8_breathes_48 : decode cX8_breathes 48 = .ok (.iinc 4 1, 3) := by decide +kernel
theorem dX8_breathes_51 : decode cX8_breathes 51 = .ok (.goto (-20), 3) := by decide +kernel
theorem dX8_breathes_54 : decode cX8_breathes 54 = .ok (.aload_n 0, 1) := by decide +kernel
theorem dX8_breathes_55 : decode cX8_breathes 55 = .ok (.getfield 7, 3) := by decide +kernel
theorem dX8_breathes_58 : decode cX8_breathes 58 = .ok (.bipush 6, 2) := by decide +kernel
theorem dX8_breathes_60 : decode cX8_breathes 60 = .ok (.dup2, 1) := by decide +kernel
theorem dX8_breathes_61 : decode cX8_breathes 61 = .ok (.iaload, 1) := by decide +kernel
theorem dX8_breathes_62 : decode cX8_breathes 62 = .ok (.iload_n 3, 1) := by decide +kernel
theorem dX8_breathes_63 : decode cX8_breathes 63 = .ok (.iadd, 1) := by decide +kernel
theorem dX8_breathes_64 : decode cX8_breathes 64 = .ok (.iastore, 1) := by decide +kernel
theorem dX8_breathes_65 : decode cX8_breathes 65 = .ok (.iload_n 3, 1) := by decide +kernel
theorem dX8_breathes_66 : decode cX8_breathes 66 = .ok (.ireturn, 1) := by decide +kernel
theorem dX8_closes_0 : decode cX8_closes 0 = .ok (.aload_n 0, 1) := by decide +kernel
theorem dX8_closes_1 : decode cX8_closes 1 = .ok (.getfield 7, 3) := by decide +kernel
theorem dX8_closes_4 : decode cX8_closes 4 = .ok (.iconst 3, 1) := by decide +kernel
theorem dX8_closes_5 : decode cX8_closes 5 = .ok (.iaload, 1) := by decide +kernel
theorem dX8_closes_6 : decode cX8_closes 6 = .ok (.iconst 5, 1) := by decide +kernel
theorem dX8_closes_7 : decode cX8_closes 7 = .ok (.if_icmp .eq 16, 3) := by decide +kernel
theorem dX8_closes_10 : decode cX8_closes 10 = .ok (.aload_n 0, 1) := by decide +kernel
theorem dX8_closes_11 : decode cX8_closes 11 = .ok (.aload_n 0, 1) := by decide +kernel
theorem dX8_closes_12 : decode cX8_closes 12 = .ok (.getfield 7, 3) := by decide +kernel
theorem dX8_closes_15 : decode cX8_closes 15 = .ok (.iconst 3, 1) := by decide +kernel
theorem dX8_closes_16 : decode cX8_closes 16 = .ok (.iaload, 1) := by decide +kernel
theorem dX8_closes_17 : decode cX8_closes 17 = .ok (.invokevirtual 92, 3) := by decide +kernel
theorem dX8_closes_20 : decode cX8_closes 20 = .ok (.ifCond .ne 6, 3) := by decide +kernel
theorem dX8_closes_23 : decode cX8_closes 23 = .ok (.bipush (-5), 2) := by decide +kernel
theorem dX8_closes_25 : decode cX8_closes 25 = .ok (.ireturn, 1) := by decide +kernel
theorem dX8_closes_26 : decode cX8_closes 26 = .ok (.aload_n 0, 1) := by decide +kernel
theorem dX8_closes_27 : decode cX8_closes 27 = .ok (.getfield 7, 3) := by decide +kernel
theorem dX8_closes_30 : decode cX8_closes 30 = .ok (.iconst 3, 1) := by decide +kernel
theorem dX8_closes_31 : decode cX8_closes 31 = .ok (.dup2, 1) := by decide +kernel
theorem dX8_closes_32 : decode cX8_closes 32 = .ok (.iaload, 1) := by decide +kernel
theorem dX8_closes_33 : decode cX8_closes 33 = .ok (.iconst 1, 1) := by decide +kernel
theorem dX8_closes_34 : decode cX8_closes 34 = .ok (.iadd, 1) := by decide +kernel
theorem dX8_closes_35 : decode cX8_closes 35 = .ok (.iastore, 1) := by decide +kernel
theorem dX8_closes_36 : decode cX8_closes 36 = .ok (.aload_n 0, 1) := by decide +kernel
theorem dX8_closes_37 : decode cX8_closes 37 = .ok (.getfield 7, 3) := by decide +kernel
theorem dX8_closes_40 : decode cX8_closes 40 = .ok (.iconst 3, 1) := by decide +kernel
theorem dX8_closes_41 : decode cX8_closes 41 = .ok (.iaload, 1) := by decide +kernel
theorem dX8_closes_42 : decode cX8_closes 42 = .ok (.iconst 1, 1) := by decide +kernel
theorem dX8_closes_43 : decode cX8_closes 43 = .ok (.isub, 1) := by decide +kernel
theorem dX8_closes_44 : decode cX8_closes 44 = .ok (.ireturn, 1) := by decide +kernel
theorem dX8_swept_0 : decode cX8_swept 0 = .ok (.iload_n 0, 1) := by decide +kernel
theorem dX8_swept_1 : decode cX8_swept 1 = .ok (.iconst 1, 1) := by decide +kernel
theorem dX8_swept_2 : decode cX8_swept 2 = .ok (.if_icmp .ne 7, 3) := by decide +kernel
theorem dX8_swept_5 : decode cX8_swept 5 = .ok (.iconst 2, 1) := by decide +kernel
theorem dX8_swept_6 : decode cX8_swept 6 = .ok (.goto 13, 3) := by decide +kernel
theorem dX8_swept_9 : decode cX8_swept 9 = .ok (.iload_n 0, 1) := by decide +kernel
theorem dX8_swept_10 : decode cX8_swept 10 = .ok (.iconst 2, 1) := by decide +kernel
theorem dX8_swept_11 : decode cX8_swept 11 = .ok (.if_icmp .ne 7, 3) := by decide +kernel
theorem dX8_swept_14 : decode cX8_swept 14 = .ok (.iconst 1, 1) := by decide +kernel
theorem dX8_swept_15 : decode cX8_swept 15 = .ok (.goto 4, 3) := by decide +kernel
theorem dX8_swept_18 : decode cX8_swept 18 = .ok (.iload_n 0, 1) := by decide +kernel
theorem dX8_swept_19 : decode cX8_swept 19 = .ok (.ireturn, 1) := by decide +kernel
theorem dX8_sweeps_0 : decode cX8_sweeps 0 = .ok (.aload_n 0, 1) := by decide +kernel
theorem dX8_sweeps_1 : decode cX8_sweeps 1 = .ok (.getfield 7, 3) := by decide +kernel
theorem dX8_sweeps_4 : decode cX8_sweeps 4 = .ok (.iconst 3, 1) := by decide +kernel
theorem dX8_sweeps_5 : decode cX8_sweeps 5 = .ok (.iaload, 1) := by decide +kernel
theorem dX8_sweeps_6 : decode cX8_sweeps 6 = .ok (.iconst 5, 1) := by decide +kernel
theorem dX8_sweeps_7 : decode cX8_sweeps 7 = .ok (.if_icmp .ge 6, 3) := by decide +kernel
theorem dX8_sweeps_10 : decode cX8_sweeps 10 = .ok (.bipush (-5), 2) := by decide +kernel
theorem dX8_sweeps_12 : decode cX8_sweeps 12 = .ok (.ireturn, 1) := by decide +kernel
theorem dX8_sweeps_13 : decode cX8_sweeps 13 = .ok (.aload_n 0, 1) := by decide +kernel
theorem dX8_sweeps_14 : decode cX8_sweeps 14 = .ok (.getfield 7, 3) := by decide +kernel
theorem dX8_sweeps_17 : decode cX8_sweeps 17 = .ok (.bipush 7, 2) := by decide +kernel
theorem dX8_sweeps_19 : decode cX8_sweeps 19 = .ok (.iaload, 1) := by decide +kernel
theorem dX8_sweeps_20 : decode cX8_sweeps 20 = .ok (.invokestatic 95, 3) := by decide +kernel
theorem dX8_sweeps_23 : decode cX8_sweeps 23 = .ok (.istore_n 1, 1) := by decide +kernel
theorem dX8_sweeps_24 : decode cX8_sweeps 24 = .ok (.iconst 0, 1) := by decide +kernel
theorem dX8_sweeps_25 : decode cX8_sweeps 25 = .ok (.istore_n 2, 1) := by decide +kernel
theorem dX8_sweeps_26 : decode cX8_sweeps 26 = .ok (.iload_n 2, 1) := by decide +kernel
theorem dX8_sweeps_27 : decode cX8_sweeps 27 = .ok (.bipush 40, 2) := by decide +kernel
theorem dX8_sweeps_29 : decode cX8_sweeps 29 = .ok (.if_icmp .ge 47, 3) := by decide +kernel
theorem dX8_sweeps_32 : decode cX8_sweeps 32 = .ok (.iload_n 1, 1) := by decide +kernel
theorem dX8_sweeps_33 : decode cX8_sweeps 33 = .ok (.iload_n 2, 1) := by decide +kernel
theorem dX8_sweeps_34 : decode cX8_sweeps 34 = .ok (.bipush 8, 2) := by decide +kernel
theorem dX8_sweeps_36 : decode cX8_sweeps 36 = .ok (.idiv, 1) := by decide +kernel
theorem dX8_sweeps_37 : decode cX8_sweeps 37 = .ok (.iload_n 2, 1) := by decide +kernel
theorem dX8_sweeps_38 : decode cX8_sweeps 38 = .ok (.bipush 8, 2) := by decide +kernel
theorem dX8_sweeps_40 : decode cX8_sweeps 40 = .ok (.irem, 1) := by decide +kernel
theorem dX8_sweeps_41 : decode cX8_sweeps 41 = .ok (.invokestatic 61, 3) := by decide +kernel
theorem dX8_sweeps_44 : decode cX8_sweeps 44 = .ok (.istore_n 3, 1) := by decide +kernel
theorem dX8_sweeps_45 : decode cX8_sweeps 45 = .ok (.aload_n 0, 1) := by decide +kernel
theorem dX8_sweeps_46 : decode cX8_sweeps 46 = .ok (.getfield 7, 3) := by decide +kernel
theorem dX8_sweeps_49 : decode cX8_sweeps 49 = .ok (.bipush 6, 2) := by decide +kernel
theorem dX8_sweeps_51 : decode cX8_sweeps 51 = .ok (.dup2, 1) := by decide +kernel
theorem dX8_sweeps_52 : decode cX8_sweeps 52 = .ok (.iaload, 1) := by decide +kernel
theorem dX8_sweeps_53 : decode cX8_sweeps 53 = .ok (.aload_n 0, 1) := by decide +kernel
theorem dX8_sweeps_54 : decode cX8_sweeps 54 = .ok (.getfield 7, 3) := by decide +kernel
theorem dX8_sweeps_57 : decode cX8_sweeps 57 = .ok (.iload_n 3, 1) := by decide +kernel
theorem dX8_sweeps_58 : decode cX8_sweeps 58 = .ok (.iconst 1, 1) := by decide +kernel
theorem dX8_sweeps_59 : decode cX8_sweeps 59 = .ok (.iadd, 1) := by decide +kernel
theorem dX8_sweeps_60 : decode cX8_sweeps 60 = .ok (.iaload, 1) := by decide +kernel
theorem dX8_sweeps_61 : decode cX8_sweeps 61 = .ok (.iadd, 1) := by decide +kernel
theorem dX8_sweeps_62 : decode cX8_sweeps 62 = .ok (.iastore, 1) := by decide +kernel
theorem dX8_sweeps_63 : decode cX8_sweeps 63 = .ok (.aload_n 0, 1) := by decide +kernel
theorem dX8_sweeps_64 : decode cX8_sweeps 64 = .ok (.iload_n 3, 1) := by decide +kernel
theorem dX8_sweeps_65 : decode cX8_sweeps 65 = .ok (.iconst 0, 1) := by decide +kernel
theorem dX8_sweeps_66 : decode cX8_sweeps 66 = .ok (.iconst 0, 1) := by decide +kernel
theorem dX8_sweeps_67 : decode cX8_sweeps 67 = .ok (.invokevirtual 82, 3) := by decide +kernel
theorem dX8_sweeps_70 : decode cX8_sweeps 70 = .ok (.iinc 2 1, 3) := by decide +kernel
theorem dX8_sweeps_73 : decode cX8_sweeps 73 = .ok (.goto (-47), 3) := by decide +kernel
theorem dX8_sweeps_76 : decode cX8_sweeps 76 = .ok (.aload_n 0, 1) := by decide +kernel
theorem dX8_sweeps_77 : decode cX8_sweeps 77 = .ok (.getfield 7, 3) := by decide +kernel
theorem dX8_sweeps_80 : decode cX8_sweeps 80 = .ok (.bipush 7, 2) := by decide +kernel
theorem dX8_sweeps_82 : decode cX8_sweeps 82 = .ok (.dup2, 1) := by decide +kernel
theorem dX8_sweeps_83 : decode cX8_sweeps 83 = .ok (.iaload, 1) := by decide +kernel
theorem dX8_sweeps_84 : decode cX8_sweeps 84 = .ok (.iconst 1, 1) := by decide +kernel
theorem dX8_sweeps_85 : decode cX8_sweeps 85 = .ok (.iadd, 1) := by decide +kernel
theorem dX8_sweeps_86 : decode cX8_sweeps 86 = .ok (.iastore, 1) := by decide +kernel
theorem dX8_sweeps_87 : decode cX8_sweeps 87 = .ok (.aload_n 0, 1) := by decide +kernel
theorem dX8_sweeps_88 : decode cX8_sweeps 88 = .ok (.getfield 7, 3) := by decide +kernel
theorem dX8_sweeps_91 : decode cX8_sweeps 91 = .ok (.bipush 7, 2) := by decide +kernel
theorem dX8_sweeps_93 : decode cX8_sweeps 93 = .ok (.iaload, 1) := by decide +kernel
theorem dX8_sweeps_94 : decode cX8_sweeps 94 = .ok (.iconst 4, 1) := by decide +kernel
theorem dX8_sweeps_95 : decode cX8_sweeps 95 = .ok (.if_icmp .ne 52, 3) := by decide +kernel
theorem dX8_sweeps_98 : decode cX8_sweeps 98 = .ok (.aload_n 0, 1) := by decide +kernel
theorem dX8_sweeps_99 : decode cX8_sweeps 99 = .ok (.getfield 7, 3) := by decide +kernel
theorem dX8_sweeps_102 : decode cX8_sweeps 102 = .ok (.bipush 7, 2) := by decide +kernel
theorem dX8_sweeps_104 : decode cX8_sweeps 104 = .ok (.iconst 0, 1) := by decide +kernel
theorem dX8_sweeps_105 : decode cX8_sweeps 105 = .ok (.iastore, 1) := by decide +kernel
theorem dX8_sweeps_106 : decode cX8_sweeps 106 = .ok (.aload_n 0, 1) := by decide +kernel
theorem dX8_sweeps_107 : decode cX8_sweeps 107 = .ok (.getfield 7, 3) := by decide +kernel
theorem dX8_sweeps_110 : decode cX8_sweeps 110 = .ok (.iconst 3, 1) := by decide +kernel
theorem dX8_sweeps_111 : decode cX8_sweeps 111 = .ok (.iconst 0, 1) := by decide +kernel
theorem dX8_sweeps_112 : decode cX8_sweeps 112 = .ok (.iastore, 1) := by decide +kernel
theorem dX8_sweeps_113 : decode cX8_sweeps 113 = .ok (.aload_n 0, 1) := by decide +kernel
theorem dX8_sweeps_114 : decode cX8_sweeps 114 = .ok (.getfield 7, 3) := by decide +kernel
theorem dX8_sweeps_117 : decode cX8_sweeps 117 = .ok (.iconst 4, 1) := by decide +kernel
theorem dX8_sweeps_118 : decode cX8_sweeps 118 = .ok (.dup2, 1) := by decide +kernel
theorem dX8_sweeps_119 : decode cX8_sweeps 119 = .ok (.iaload, 1) := by decide +kernel
theorem dX8_sweeps_120 : decode cX8_sweeps 120 = .ok (.iconst 1, 1) := by decide +kernel
theorem dX8_sweeps_121 : decode cX8_sweeps 121 = .ok (.iadd, 1) := by decide +kernel
theorem dX8_sweeps_122 : decode cX8_sweeps 122 = .ok (.iastore, 1) := by decide +kernel
theorem dX8_sweeps_123 : decode cX8_sweeps 123 = .ok (.iconst 0, 1) := by decide +kernel
theorem dX8_sweeps_124 : decode cX8_sweeps 124 = .ok (.istore_n 2, 1) := by decide +kernel
theorem dX8_sweeps_125 : decode cX8_sweeps 125 = .ok (.iload_n 2, 1) := by decide +kernel
theorem dX8_sweeps_126 : decode cX8_sweeps 126 = .ok (.bipush 45, 2) := by decide +kernel
theorem dX8_sweeps_128 : decode cX8_sweeps 128 = .ok (.if_icmp .ge 19, 3) := by decide +kernel
theorem dX8_sweeps_131 : decode cX8_sweeps 131 = .ok (.aload_n 0, 1) := by decide +kernel
theorem dX8_sweeps_132 : decode cX8_sweeps 132 = .ok (.getfield 7, 3) := by decide +kernel
theorem dX8_sweeps_135 : decode cX8_sweeps 135 = .ok (.bipush 18, 2) := by decide +kernel
theorem dX8_sweeps_137 : decode cX8_sweeps 137 = .ok (.iload_n 2, 1) := by decide +kernel
theorem dX8_sweeps_138 : decode cX8_sweeps 138 = .ok (.iadd, 1) := by decide +kernel
theorem dX8_sweeps_139 : decode cX8_sweeps 139 = .ok (.iconst 0, 1) := by decide +kernel
theorem dX8_sweeps_140 : decode cX8_sweeps 140 = .ok (.iastore, 1) := by decide +kernel
theorem dX8_sweeps_141 : decode cX8_sweeps 141 = .ok (.iinc 2 1, 3) := by decide +kernel
theorem dX8_sweeps_144 : decode cX8_sweeps 144 = .ok (.goto (-19), 3) := by decide +kernel
theorem dX8_sweeps_147 : decode cX8_sweeps 147 = .ok (.iload_n 1, 1) := by decide +kernel
theorem dX8_sweeps_148 : decode cX8_sweeps 148 = .ok (.ireturn, 1) := by decide +kernel
theorem dX8_set_0 : decode cX8_set 0 = .ok (.iload_n 1, 1) := by decide +kernel
theorem dX8_set_1 : decode cX8_set 1 = .ok (.ifCond .ne 13, 3) := by decide +kernel
theorem dX8_set_4 : decode cX8_set 4 = .ok (.iload_n 2, 1) := by decide +kernel
theorem dX8_set_5 : decode cX8_set 5 = .ok (.iconst 1, 1) := by decide +kernel
theorem dX8_set_6 : decode cX8_set 6 = .ok (.bipush 50, 2) := by decide +kernel
theorem dX8_set_8 : decode cX8_set 8 = .ok (.invokestatic 39, 3) := by decide +kernel
theorem dX8_set_11 : decode cX8_set 11 = .ok (.goto 37, 3) := by decide +kernel
theorem dX8_set_14 : decode cX8_set 14 = .ok (.iload_n 1, 1) := by decide +kernel
theorem dX8_set_15 : decode cX8_set 15 = .ok (.iconst 1, 1) := by decide +kernel
theorem dX8_set_16 : decode cX8_set 16 = .ok (.if_icmp .ne 13, 3) := by decide +kernel
theorem dX8_set_19 : decode cX8_set 19 = .ok (.iload_n 2, 1) := by decide +kernel
theorem dX8_set_20 : decode cX8_set 20 = .ok (.iconst 1, 1) := by decide +kernel
theorem dX8_set_21 : decode cX8_set 21 = .ok (.bipush 99, 2) := by decide +kernel
theorem dX8_set_23 : decode cX8_set 23 = .ok (.invokestatic 39, 3) := by decide +kernel
theorem dX8_set_26 : decode cX8_set 26 = .ok (.goto 22, 3) := by decide +kernel
theorem dX8_set_29 : decode cX8_set 29 = .ok (.iload_n 1, 1) := by decide +kernel
theorem dX8_set_30 : decode cX8_set 30 = .ok (.iconst 2, 1) := by decide +kernel
theorem dX8_set_31 : decode cX8_set 31 = .ok (.if_icmp .ne 16, 3) := by decide +kernel
theorem dX8_set_34 : decode cX8_set 34 = .ok (.iload_n 2, 1) := by decide +kernel
theorem dX8_set_35 : decode cX8_set 35 = .ok (.iconst 0, 1) := by decide +kernel
theorem dX8_set_36 : decode cX8_set 36 = .ok (.iconst 1, 1) := by decide +kernel
theorem dX8_set_37 : decode cX8_set 37 = .ok (.invokestatic 39, 3) := by decide +kernel
theorem dX8_set_40 : decode cX8_set 40 = .ok (.ifCond .eq 7, 3) := by decide +kernel
theorem dX8_set_43 : decode cX8_set 43 = .ok (.iconst 1, 1) := by decide +kernel
theorem dX8_set_44 : decode cX8_set 44 = .ok (.goto 4, 3) := by decide +kernel
theorem dX8_set_47 : decode cX8_set 47 = .ok (.iconst 0, 1) := by decide +kernel
theorem dX8_set_48 : decode cX8_set 48 = .ok (.istore_n 3, 1) := by decide +kernel
theorem dX8_set_49 : decode cX8_set 49 = .ok (.iload_n 3, 1) := by decide +kernel
theorem dX8_set_50 : decode cX8_set 50 = .ok (.ifCond .ne 6, 3) := by decide +kernel
theorem dX8_set_53 : decode cX8_set 53 = .ok (.bipush (-2), 2) := by decide +kernel
theorem dX8_set_55 : decode cX8_set 55 = .ok (.ireturn, 1) := by decide +kernel
theorem dX8_set_56 : decode cX8_set 56 = .ok (.aload_n 0, 1) := by decide +kernel
theorem dX8_set_57 : decode cX8_set 57 = .ok (.invokevirtual 98, 3) := by decide +kernel
theorem dX8_set_60 : decode cX8_set 60 = .ok (.aload_n 0, 1) := by decide +kernel
theorem dX8_set_61 : decode cX8_set 61 = .ok (.getfield 7, 3) := by decide +kernel
theorem dX8_set_64 : decode cX8_set 64 = .ok (.iload_n 1, 1) := by decide +kernel
theorem dX8_set_65 : decode cX8_set 65 = .ok (.iaload, 1) := by decide +kernel
theorem dX8_set_66 : decode cX8_set 66 = .ok (.istore 4, 2) := by decide +kernel
theorem dX8_set_68 : decode cX8_set 68 = .ok (.aload_n 0, 1) := by decide +kernel
theorem dX8_set_69 : decode cX8_set 69 = .ok (.getfield 7, 3) := by decide +kernel
theorem dX8_set_72 : decode cX8_set 72 = .ok (.iload_n 1, 1) := by decide +kernel
theorem dX8_set_73 : decode cX8_set 73 = .ok (.iload_n 2, 1) := by decide +kernel
theorem dX8_set_74 : decode cX8_set 74 = .ok (.iastore, 1) := by decide +kernel
theorem dX8_set_75 : decode cX8_set 75 = .ok (.aload_n 0, 1) := by decide +kernel
theorem dX8_set_76 : decode cX8_set 76 = .ok (.iload 4, 2) := by decide +kernel
theorem dX8_set_78 : decode cX8_set 78 = .ok (.invokevirtual 101, 3) := by decide +kernel
theorem dX8_set_81 : decode cX8_set 81 = .ok (.ireturn, 1) := by decide +kernel
theorem dX8_pattern_0 : decode cX8_pattern 0 = .ok (.aload_n 0, 1) := by decide +kernel
theorem dX8_pattern_1 : decode cX8_pattern 1 = .ok (.invokevirtual 98, 3) := by decide +kernel
theorem dX8_pattern_4 : decode cX8_pattern 4 = .ok (.aload_n 0, 1) := by decide +kernel
theorem dX8_pattern_5 : decode cX8_pattern 5 = .ok (.aload_n 0, 1) := by decide +kernel
theorem dX8_pattern_6 : decode cX8_pattern 6 = .ok (.iload_n 1, 1) := by decide +kernel
theorem dX8_pattern_7 : decode cX8_pattern 7 = .ok (.iload_n 2, 1) := by decide +kernel
theorem dX8_pattern_8 : decode cX8_pattern 8 = .ok (.invokevirtual 104, 3) := by decide +kernel
theorem dX8_pattern_11 : decode cX8_pattern 11 = .ok (.invokevirtual 101, 3) := by decide +kernel
theorem dX8_pattern_14 : decode cX8_pattern 14 = .ok (.ireturn, 1) := by decide +kernel
theorem dX8_take_0 : decode cX8_take 0 = .ok (.aload_n 0, 1) := by decide +kernel
theorem dX8_take_1 : decode cX8_take 1 = .ok (.invokevirtual 98, 3) := by decide +kernel
theorem dX8_take_4 : decode cX8_take 4 = .ok (.aload_n 0, 1) := by decide +kernel
theorem dX8_take_5 : decode cX8_take 5 = .ok (.aload_n 0, 1) := by decide +kernel
theorem dX8_take_6 : decode cX8_take 6 = .ok (.iload_n 1, 1) := by decide +kernel
theorem dX8_take_7 : decode cX8_take 7 = .ok (.iload_n 2, 1) := by decide +kernel
theorem dX8_take_8 : decode cX8_take 8 = .ok (.invokevirtual 107, 3) := by decide +kernel
theorem dX8_take_11 : decode cX8_take 11 = .ok (.invokevirtual 101, 3) := by decide +kernel
theorem dX8_take_14 : decode cX8_take 14 = .ok (.ireturn, 1) := by decide +kernel
theorem dX8_fill_0 : decode cX8_fill 0 = .ok (.iload_n 1, 1) := by decide +kernel
theorem dX8_fill_1 : decode cX8_fill 1 = .ok (.invokestatic 110, 3) := by decide +kernel
theorem dX8_fill_4 : decode cX8_fill 4 = .ok (.ifCond .ne 5, 3) := by decide +kernel
theorem dX8_fill_7 : decode cX8_fill 7 = .ok (.iconst (-1), 1) := by decide +kernel
theorem dX8_fill_8 : decode cX8_fill 8 = .ok (.ireturn, 1) := by decide +kernel
theorem dX8_fill_9 : decode cX8_fill 9 = .ok (.iload_n 2, 1) := by decide +kernel
theorem dX8_fill_10 : decode cX8_fill 10 = .ok (.iconst 1, 1) := by decide +kernel
theorem dX8_fill_11 : decode cX8_fill 11 = .ok (.sipush 9999, 3) := by decide +kernel
theorem dX8_fill_14 : decode cX8_fill 14 = .ok (.invokestatic 39, 3) := by decide +kernel
theorem dX8_fill_17 : decode cX8_fill 17 = .ok (.ifCond .ne 6, 3) := by decide +kernel
theorem dX8_fill_20 : decode cX8_fill 20 = .ok (.bipush (-2), 2) := by decide +kernel
theorem dX8_fill_22 : decode cX8_fill 22 = .ok (.ireturn, 1) := by decide +kernel
theorem dX8_fill_23 : decode cX8_fill 23 = .ok (.aload_n 0, 1) := by decide +kernel
theorem dX8_fill_24 : decode cX8_fill 24 = .ok (.invokevirtual 98, 3) := by decide +kernel
theorem dX8_fill_27 : decode cX8_fill 27 = .ok (.aload_n 0, 1) := by decide +kernel
theorem dX8_fill_28 : decode cX8_fill 28 = .ok (.getfield 7, 3) := by decide +kernel
theorem dX8_fill_31 : decode cX8_fill 31 = .ok (.bipush 11, 2) := by decide +kernel
theorem dX8_fill_33 : decode cX8_fill 33 = .ok (.iload_n 1, 1) := by decide +kernel
theorem dX8_fill_34 : decode cX8_fill 34 = .ok (.iadd, 1) := by decide +kernel
theorem dX8_fill_35 : decode cX8_fill 35 = .ok (.iaload, 1) := by decide +kernel
theorem dX8_fill_36 : decode cX8_fill 36 = .ok (.iload_n 2, 1) := by decide +kernel
theorem dX8_fill_37 : decode cX8_fill 37 = .ok (.iadd, 1) := by decide +kernel
theorem dX8_fill_38 : decode cX8_fill 38 = .ok (.istore_n 3, 1) := by decide +kernel
theorem dX8_fill_39 : decode cX8_fill 39 = .ok (.aload_n 0, 1) := by decide +kernel
theorem dX8_fill_40 : decode cX8_fill 40 = .ok (.getfield 7, 3) := by decide +kernel
theorem dX8_fill_43 : decode cX8_fill 43 = .ok (.bipush 11, 2) := by decide +kernel
theorem dX8_fill_45 : decode cX8_fill 45 = .ok (.iload_n 1, 1) := by decide +kernel
theorem dX8_fill_46 : decode cX8_fill 46 = .ok (.iadd, 1) := by decide +kernel
theorem dX8_fill_47 : decode cX8_fill 47 = .ok (.iload_n 3, 1) := by decide +kernel
theorem dX8_fill_48 : decode cX8_fill 48 = .ok (.sipush 9999, 3) := by decide +kernel
theorem dX8_fill_51 : decode cX8_fill 51 = .ok (.if_icmp .le 9, 3) := by decide +kernel
theorem dX8_fill_54 : decode cX8_fill 54 = .ok (.sipush 9999, 3) := by decide +kernel
theorem dX8_fill_57 : decode cX8_fill 57 = .ok (.goto 4, 3) := by decide +kernel
theorem dX8_fill_60 : decode cX8_fill 60 = .ok (.iload_n 3, 1) := by decide +kernel
theorem dX8_fill_61 : decode cX8_fill 61 = .ok (.iastore, 1) := by decide +kernel
theorem dX8_fill_62 : decode cX8_fill 62 = .ok (.aload_n 0, 1) := by decide +kernel
theorem dX8_fill_63 : decode cX8_fill 63 = .ok (.aload_n 0, 1) := by decide +kernel
theorem dX8_fill_64 : decode cX8_fill 64 = .ok (.getfield 7, 3) := by decide +kernel
theorem dX8_fill_67 : decode cX8_fill 67 = .ok (.bipush 11, 2) := by decide +kernel
theorem dX8_fill_69 : decode cX8_fill 69 = .ok (.iload_n 1, 1) := by decide +kernel
theorem dX8_fill_70 : decode cX8_fill 70 = .ok (.iadd, 1) := by decide +kernel
theorem dX8_fill_71 : decode cX8_fill 71 = .ok (.iaload, 1) := by decide +kernel
theorem dX8_fill_72 : decode cX8_fill 72 = .ok (.invokevirtual 101, 3) := by decide +kernel
theorem dX8_fill_75 : decode cX8_fill 75 = .ok (.ireturn, 1) := by decide +kernel
theorem dX8_pour_0 : decode cX8_pour 0 = .ok (.aload_n 0, 1) := by decide +kernel
theorem dX8_pour_1 : decode cX8_pour 1 = .ok (.invokevirtual 98, 3) := by decide +kernel
theorem dX8_pour_4 : decode cX8_pour 4 = .ok (.aload_n 0, 1) := by decide +kernel
theorem dX8_pour_5 : decode cX8_pour 5 = .ok (.aload_n 0, 1) := by decide +kernel
theorem dX8_pour_6 : decode cX8_pour 6 = .ok (.iload_n 1, 1) := by decide +kernel
theorem dX8_pour_7 : decode cX8_pour 7 = .ok (.iload_n 2, 1) := by decide +kernel
theorem dX8_pour_8 : decode cX8_pour 8 = .ok (.iload_n 3, 1) := by decide +kernel
theorem dX8_pour_9 : decode cX8_pour 9 = .ok (.iload 4, 2) := by decide +kernel
theorem dX8_pour_11 : decode cX8_pour 11 = .ok (.invokevirtual 113, 3) := by decide +kernel
theorem dX8_pour_14 : decode cX8_pour 14 = .ok (.invokevirtual 101, 3) := by decide +kernel
theorem dX8_pour_17 : decode cX8_pour 17 = .ok (.ireturn, 1) := by decide +kernel
theorem dX8_scrape_0 : decode cX8_scrape 0 = .ok (.aload_n 0, 1) := by decide +kernel
theorem dX8_scrape_1 : decode cX8_scrape 1 = .ok (.invokevirtual 98, 3) := by decide +kernel
theorem dX8_scrape_4 : decode cX8_scrape 4 = .ok (.aload_n 0, 1) := by decide +kernel
theorem dX8_scrape_5 : decode cX8_scrape 5 = .ok (.aload_n 0, 1) := by decide +kernel
theorem dX8_scrape_6 : decode cX8_scrape 6 = .ok (.iload_n 1, 1) := by decide +kernel
theorem dX8_scrape_7 : decode cX8_scrape 7 = .ok (.iload_n 2, 1) := by decide +kernel
theorem dX8_scrape_8 : decode cX8_scrape 8 = .ok (.iload_n 3, 1) := by decide +kernel
theorem dX8_scrape_9 : decode cX8_scrape 9 = .ok (.invokevirtual 117, 3) := by decide +kernel
theorem dX8_scrape_12 : decode cX8_scrape 12 = .ok (.invokevirtual 101, 3) := by decide +kernel
theorem dX8_scrape_15 : decode cX8_scrape 15 = .ok (.ireturn, 1) := by decide +kernel
theorem dX8_breathe_0 : decode cX8_breathe 0 = .ok (.aload_n 0, 1) := by decide +kernel
theorem dX8_breathe_1 : decode cX8_breathe 1 = .ok (.invokevirtual 98, 3) := by decide +kernel
theorem dX8_breathe_4 : decode cX8_breathe 4 = .ok (.aload_n 0, 1) := by decide +kernel
theorem dX8_breathe_5 : decode cX8_breathe 5 = .ok (.aload_n 0, 1) := by decide +kernel
theorem dX8_breathe_6 : decode cX8_breathe 6 = .ok (.iload_n 1, 1) := by decide +kernel
theorem dX8_breathe_7 : decode cX8_breathe 7 = .ok (.iload_n 2, 1) := by decide +kernel
theorem dX8_breathe_8 : decode cX8_breathe 8 = .ok (.invokevirtual 120, 3) := by decide +kernel
theorem dX8_breathe_11 : decode cX8_breathe 11 = .ok (.invokevirtual 101, 3) := by decide +kernel
theorem dX8_breathe_14 : decode cX8_breathe 14 = .ok (.ireturn, 1) := by decide +kernel
theorem dX8_close_0 : decode cX8_close 0 = .ok (.aload_n 0, 1) := by decide +kernel
theorem dX8_close_1 : decode cX8_close 1 = .ok (.invokevirtual 98, 3) := by decide +kernel
theorem dX8_close_4 : decode cX8_close 4 = .ok (.aload_n 0, 1) := by decide +kernel
theorem dX8_close_5 : decode cX8_close 5 = .ok (.aload_n 0, 1) := by decide +kernel
theorem dX8_close_6 : decode cX8_close 6 = .ok (.invokevirtual 123, 3) := by decide +kernel
theorem dX8_close_9 : decode cX8_close 9 = .ok (.invokevirtual 101, 3) := by decide +kernel
theorem dX8_close_12 : decode cX8_close 12 = .ok (.ireturn, 1) := by decide +kernel
theorem dX8_sweep_0 : decode cX8_sweep 0 = .ok (.aload_n 0, 1) := by decide +kernel
theorem dX8_sweep_1 : decode cX8_sweep 1 = .ok (.invokevirtual 98, 3) := by decide +kernel
theorem dX8_sweep_4 : decode cX8_sweep 4 = .ok (.aload_n 0, 1) := by decide +kernel
theorem dX8_sweep_5 : decode cX8_sweep 5 = .ok (.aload_n 0, 1) := by decide +kernel
theorem dX8_sweep_6 : decode cX8_sweep 6 = .ok (.invokevirtual 127, 3) := by decide +kernel
theorem dX8_sweep_9 : decode cX8_sweep 9 = .ok (.invokevirtual 101, 3) := by decide +kernel
theorem dX8_sweep_12 : decode cX8_sweep 12 = .ok (.ireturn, 1) := by decide +kernel
theorem dX8_at_0 : decode cX8_at 0 = .ok (.iload_n 1, 1) := by decide +kernel
theorem dX8_at_1 : decode cX8_at 1 = .ok (.iload_n 2, 1) := by decide +kernel
theorem dX8_at_2 : decode cX8_at 2 = .ok (.iload_n 3, 1) := by decide +kernel
theorem dX8_at_3 : decode cX8_at 3 = .ok (.invokestatic 79, 3) := by decide +kernel
theorem dX8_at_6 : decode cX8_at 6 = .ok (.ifCond .ne 5, 3) := by decide +kernel
theorem dX8_at_9 : decode cX8_at 9 = .ok (.iconst (-1), 1) := by decide +kernel
theorem dX8_at_10 : decode cX8_at 10 = .ok (.ireturn, 1) := by decide +kernel
theorem dX8_at_11 : decode cX8_at 11 = .ok (.iload 4, 2) := by decide +kernel
theorem dX8_at_13 : decode cX8_at 13 = .ok (.tableswitch 81 0 4 #[35, 35, 50, 58, 74], 35) := by decide +kernel
theorem dX8_at_48 : decode cX8_at 48 = .ok (.aload_n 0, 1) := by decide +kernel
theorem dX8_at_49 : decode cX8_at 49 = .ok (.getfield 7, 3) := by decide +kernel
theorem dX8_at_52 : decode cX8_at 52 = .ok (.iload_n 1, 1) := by decide +kernel
theorem dX8_at_53 : decode cX8_at 53 = .ok (.iload_n 2, 1) := by decide +kernel
theorem dX8_at_54 : decode cX8_at 54 = .ok (.iload_n 3, 1) := by decide +kernel
theorem dX8_at_55 : decode cX8_at 55 = .ok (.invokestatic 61, 3) := by decide +kernel
theorem dX8_at_58 : decode cX8_at 58 = .ok (.iload 4, 2) := by decide +kernel
theorem dX8_at_60 : decode cX8_at 60 = .ok (.iadd, 1) := by decide +kernel
theorem dX8_at_61 : decode cX8_at 61 = .ok (.iaload, 1) := by decide +kernel
theorem dX8_at_62 : decode cX8_at 62 = .ok (.ireturn, 1) := by decide +kernel
theorem dX8_at_63 : decode cX8_at 63 = .ok (.aload_n 0, 1) := by decide +kernel
theorem dX8_at_64 : decode cX8_at 64 = .ok (.iload_n 1, 1) := by decide +kernel
theorem dX8_at_65 : decode cX8_at 65 = .ok (.iload_n 2, 1) := by decide +kernel
theorem dX8_at_66 : decode cX8_at 66 = .ok (.iload_n 3, 1) := by decide +kernel
theorem dX8_at_67 : decode cX8_at 67 = .ok (.invokevirtual 65, 3) := by decide +kernel
theorem dX8_at_70 : decode cX8_at 70 = .ok (.ireturn, 1) := by decide +kernel
theorem dX8_at_71 : decode cX8_at 71 = .ok (.aload_n 0, 1) := by decide +kernel
theorem dX8_at_72 : decode cX8_at 72 = .ok (.iload_n 1, 1) := by decide +kernel
theorem dX8_at_73 : decode cX8_at 73 = .ok (.iload_n 2, 1) := by decide +kernel
theorem dX8_at_74 : decode cX8_at 74 = .ok (.iload_n 3, 1) := by decide +kernel
theorem dX8_at_75 : decode cX8_at 75 = .ok (.invokevirtual 68, 3) := by decide +kernel
theorem dX8_at_78 : decode cX8_at 78 = .ok (.ifCond .eq 7, 3) := by decide +kernel
theorem dX8_at_81 : decode cX8_at 81 = .ok (.iconst 1, 1) := by decide +kernel
theorem dX8_at_82 : decode cX8_at 82 = .ok (.goto 4, 3) := by decide +kernel
theorem dX8_at_85 : decode cX8_at 85 = .ok (.iconst 0, 1) := by decide +kernel
theorem dX8_at_86 : decode cX8_at 86 = .ok (.ireturn, 1) := by decide +kernel
theorem dX8_at_87 : decode cX8_at 87 = .ok (.aload_n 0, 1) := by decide +kernel
theorem dX8_at_88 : decode cX8_at 88 = .ok (.iload_n 1, 1) := by decide +kernel
theorem dX8_at_89 : decode cX8_at 89 = .ok (.iload_n 3, 1) := by decide +kernel
theorem dX8_at_90 : decode cX8_at 90 = .ok (.invokevirtual 57, 3) := by decide +kernel
theorem dX8_at_93 : decode cX8_at 93 = .ok (.ireturn, 1) := by decide +kernel
theorem dX8_at_94 : decode cX8_at 94 = .ok (.bipush (-2), 2) := by decide +kernel
theorem dX8_at_96 : decode cX8_at 96 = .ok (.ireturn, 1) := by decide +kernel
theorem dX8_unlike_0 : decode cX8_unlike 0 = .ok (.iconst 0, 1) := by decide +kernel
theorem dX8_unlike_1 : decode cX8_unlike 1 = .ok (.istore_n 2, 1) := by decide +kernel
theorem dX8_unlike_2 : decode cX8_unlike 2 = .ok (.iconst 0, 1) := by decide +kernel
theorem dX8_unlike_3 : decode cX8_unlike 3 = .ok (.istore_n 3, 1) := by decide +kernel
theorem dX8_unlike_4 : decode cX8_unlike 4 = .ok (.iload_n 3, 1) := by decide +kernel
theorem dX8_unlike_5 : decode cX8_unlike 5 = .ok (.bipush 8, 2) := by decide +kernel
theorem dX8_unlike_7 : decode cX8_unlike 7 = .ok (.if_icmp .ge 79, 3) := by decide +kernel
theorem dX8_unlike_10 : decode cX8_unlike 10 = .ok (.aload_n 0, 1) := by decide +kernel
theorem dX8_unlike_11 : decode cX8_unlike 11 = .ok (.getfield 7, 3) := by decide +kernel
theorem dX8_unlike_14 : decode cX8_unlike 14 = .ok (.iconst 0, 1) := by decide +kernel
theorem dX8_unlike_15 : decode cX8_unlike 15 = .ok (.iload_n 1, 1) := by decide +kernel
theorem dX8_unlike_16 : decode cX8_unlike 16 = .ok (.aload_n 0, 1) := by decide +kernel
theorem dX8_unlike_17 : decode cX8_unlike 17 = .ok (.iconst 0, 1) := by decide +kernel
theorem dX8_unlike_18 : decode cX8_unlike 18 = .ok (.iload_n 3, 1) := by decide +kernel
theorem dX8_unlike_19 : decode cX8_unlike 19 = .ok (.invokevirtual 57, 3) := by decide +kernel
theorem dX8_unlike_22 : decode cX8_unlike 22 = .ok (.invokestatic 61, 3) := by decide +kernel
theorem dX8_unlike_25 : decode cX8_unlike 25 = .ok (.iconst 0, 1) := by decide +kernel
theorem dX8_unlike_26 : decode cX8_unlike 26 = .ok (.iadd, 1) := by decide +kernel
theorem dX8_unlike_27 : decode cX8_unlike 27 = .ok (.iaload, 1) := by decide +kernel
theorem dX8_unlike_28 : decode cX8_unlike 28 = .ok (.istore 4, 2) := by decide +kernel
theorem dX8_unlike_30 : decode cX8_unlike 30 = .ok (.iconst 1, 1) := by decide +kernel
theorem dX8_unlike_31 : decode cX8_unlike 31 = .ok (.istore 5, 2) := by decide +kernel
theorem dX8_unlike_33 : decode cX8_unlike 33 = .ok (.iload 5, 2) := by decide +kernel
theorem dX8_unlike_35 : decode cX8_unlike 35 = .ok (.iconst 4, 1) := by decide +kernel
theorem dX8_unlike_36 : decode cX8_unlike 36 = .ok (.if_icmp .ge 44, 3) := by decide +kernel
theorem dX8_unlike_39 : decode cX8_unlike 39 = .ok (.iload_n 2, 1) := by decide +kernel
theorem dX8_unlike_40 : decode cX8_unlike 40 = .ok (.aload_n 0, 1) := by decide +kernel
theorem dX8_unlike_41 : decode cX8_unlike 41 = .ok (.getfield 7, 3) := by decide +kernel
theorem dX8_unlike_44 : decode cX8_unlike 44 = .ok (.iload 5, 2) := by decide +kernel
theorem dX8_unlike_46 : decode cX8_unlike 46 = .ok (.iload_n 1, 1) := by decide +kernel
theorem dX8_unlike_47 : decode cX8_unlike 47 = .ok (.aload_n 0, 1) := by decide +kernel
theorem dX8_unlike_48 : decode cX8_unlike 48 = .ok (.iload 5, 2) := by decide +kernel
theorem dX8_unlike_50 : decode cX8_unlike 50 = .ok (.iload_n 3, 1) := by decide +kernel
theorem dX8_unlike_51 : decode cX8_unlike 51 = .ok (.invokevirtual 57, 3) := by decide +kernel
theorem dX8_unlike_54 : decode cX8_unlike 54 = .ok (.invokestatic 61, 3) := by decide +kernel
theorem dX8_unlike_57 : decode cX8_unlike 57 = .ok (.iconst 0, 1) := by decide +kernel
theorem dX8_unlike_58 : decode cX8_unlike 58 = .ok (.iadd, 1) := by decide +kernel
theorem dX8_unlike_59 : decode cX8_unlike 59 = .ok (.iaload, 1) := by decide +kernel
theorem dX8_unlike_60 : decode cX8_unlike 60 = .ok (.iload 4, 2) := by decide +kernel
theorem dX8_unlike_62 : decode cX8_unlike 62 = .ok (.if_icmp .ne 7, 3) := by decide +kernel
theorem dX8_unlike_65 : decode cX8_unlike 65 = .ok (.iconst 0, 1) := by decide +kernel
theorem dX8_unlike_66 : decode cX8_unlike 66 = .ok (.goto 6, 3) := by decide +kernel
theorem dX8_unlike_69 : decode cX8_unlike 69 = .ok (.iconst 1, 1) := by decide +kernel
theorem dX8_unlike_70 : decode cX8_unlike 70 = .ok (.iload_n 3, 1) := by decide +kernel
theorem dX8_unlike_71 : decode cX8_unlike 71 = .ok (.ishl, 1) := by decide +kernel
theorem dX8_unlike_72 : decode cX8_unlike 72 = .ok (.ior, 1) := by decide +kernel
theorem dX8_unlike_73 : decode cX8_unlike 73 = .ok (.istore_n 2, 1) := by decide +kernel
theorem dX8_unlike_74 : decode cX8_unlike 74 = .ok (.iinc 5 1, 3) := by decide +kernel
theorem dX8_unlike_77 : decode cX8_unlike 77 = .ok (.goto (-44), 3) := by decide +kernel
theorem dX8_unlike_80 : decode cX8_unlike 80 = .ok (.iinc 3 1, 3) := by decide +kernel
theorem dX8_unlike_83 : decode cX8_unlike 83 = .ok (.goto (-79), 3) := by decide +kernel
theorem dX8_unlike_86 : decode cX8_unlike 86 = .ok (.iload_n 2, 1) := by decide +kernel
theorem dX8_unlike_87 : decode cX8_unlike 87 = .ok (.ireturn, 1) := by decide +kernel
theorem dX8_ofPlaces_0 : decode cX8_ofPlaces 0 = .ok (.iconst 0, 1) := by decide +kernel
theorem dX8_ofPlaces_1 : decode cX8_ofPlaces 1 = .ok (.istore_n 3, 1) := by decide +kernel
theorem dX8_ofPlaces_2 : decode cX8_ofPlaces 2 = .ok (.iconst 0, 1) := by decide +kernel
theorem dX8_ofPlaces_3 : decode cX8_ofPlaces 3 = .ok (.istore 4, 2) := by decide +kernel
theorem dX8_ofPlaces_5 : decode cX8_ofPlaces 5 = .ok (.iload 4, 2) := by decide +kernel
theorem dX8_ofPlaces_7 : decode cX8_ofPlaces 7 = .ok (.bipush 32, 2) := by decide +kernel
theorem dX8_ofPlaces_9 : decode cX8_ofPlaces 9 = .ok (.if_icmp .ge 91, 3) := by decide +kernel
theorem dX8_ofPlaces_12 : decode cX8_ofPlaces 12 = .ok (.aload_n 0, 1) := by decide +kernel
theorem dX8_ofPlaces_13 : decode cX8_ofPlaces 13 = .ok (.iload 4, 2) := by decide +kernel
theorem dX8_ofPlaces_15 : decode cX8_ofPlaces 15 = .ok (.bipush 8, 2) := by decide +kernel
theorem dX8_ofPlaces_17 : decode cX8_ofPlaces 17 = .ok (.idiv, 1) := by decide +kernel
theorem dX8_ofPlaces_18 : decode cX8_ofPlaces 18 = .ok (.iload_n 1, 1) := by decide +kernel
theorem dX8_ofPlaces_19 : decode cX8_ofPlaces 19 = .ok (.iload 4, 2) := by decide +kernel
theorem dX8_ofPlaces_21 : decode cX8_ofPlaces 21 = .ok (.bipush 8, 2) := by decide +kernel
theorem dX8_ofPlaces_23 : decode cX8_ofPlaces 23 = .ok (.irem, 1) := by decide +kernel
theorem dX8_ofPlaces_24 : decode cX8_ofPlaces 24 = .ok (.invokevirtual 68, 3) := by decide +kernel
theorem dX8_ofPlaces_27 : decode cX8_ofPlaces 27 = .ok (.istore 5, 2) := by decide +kernel
theorem dX8_ofPlaces_29 : decode cX8_ofPlaces 29 = .ok (.iload_n 3, 1) := by decide +kernel
theorem dX8_ofPlaces_30 : decode cX8_ofPlaces 30 = .ok (.iload_n 2, 1) := by decide +kernel
theorem dX8_ofPlaces_31 : decode cX8_ofPlaces 31 = .ok (.iconst 4, 1) := by decide +kernel
theorem dX8_ofPlaces_32 : decode cX8_ofPlaces 32 = .ok (.if_icmp .ne 16, 3) := by decide +kernel
theorem dX8_ofPlaces_35 : decode cX8_ofPlaces 35 = .ok (.iload 5, 2) := by decide +kernel
theorem dX8_ofPlaces_37 : decode cX8_ofPlaces 37 = .ok (.ifCond .eq 7, 3) := by decide +kernel
theorem dX8_ofPlaces_40 : decode cX8_ofPlaces 40 = .ok (.iconst 0, 1) := by decide +kernel
theorem dX8_ofPlaces_41 : decode cX8_ofPlaces 41 = .ok (.goto 51, 3) := by decide +kernel
theorem dX8_ofPlaces_44 : decode cX8_ofPlaces 44 = .ok (.iconst 1, 1) := by decide +kernel
theorem dX8_ofPlaces_45 : decode cX8_ofPlaces 45 = .ok (.goto 47, 3) := by decide +kernel
theorem dX8_ofPlaces_48 : decode cX8_ofPlaces 48 = .ok (.iload_n 2, 1) := by decide +kernel
theorem dX8_ofPlaces_49 : decode cX8_ofPlaces 49 = .ok (.iconst 5, 1) := by decide +kernel
theorem dX8_ofPlaces_50 : decode cX8_ofPlaces 50 = .ok (.if_icmp .ne 27, 3) := by decide +kernel
theorem dX8_ofPlaces_53 : decode cX8_ofPlaces 53 = .ok (.aload_n 0, 1) := by decide +kernel
theorem dX8_ofPlaces_54 : decode cX8_ofPlaces 54 = .ok (.getfield 7, 3) := by decide +kernel
theorem dX8_ofPlaces_57 : decode cX8_ofPlaces 57 = .ok (.iload 4, 2) := by decide +kernel
theorem dX8_ofPlaces_59 : decode cX8_ofPlaces 59 = .ok (.bipush 8, 2) := by decide +kernel
theorem dX8_ofPlaces_61 : decode cX8_ofPlaces 61 = .ok (.idiv, 1) := by decide +kernel
theorem dX8_ofPlaces_62 : decode cX8_ofPlaces 62 = .ok (.iload_n 1, 1) := by decide +kernel
theorem dX8_ofPlaces_63 : decode cX8_ofPlaces 63 = .ok (.iload 4, 2) := by decide +kernel
theorem dX8_ofPlaces_65 : decode cX8_ofPlaces 65 = .ok (.bipush 8, 2) := by decide +kernel
theorem dX8_ofPlaces_67 : decode cX8_ofPlaces 67 = .ok (.irem, 1) := by decide +kernel
theorem dX8_ofPlaces_68 : decode cX8_ofPlaces 68 = .ok (.invokestatic 61, 3) := by decide +kernel
theorem dX8_ofPlaces_71 : decode cX8_ofPlaces 71 = .ok (.iconst 1, 1) := by decide +kernel
theorem dX8_ofPlaces_72 : decode cX8_ofPlaces 72 = .ok (.iadd, 1) := by decide +kernel
theorem dX8_ofPlaces_73 : decode cX8_ofPlaces 73 = .ok (.iaload, 1) := by decide +kernel
theorem dX8_ofPlaces_74 : decode cX8_ofPlaces 74 = .ok (.goto 18, 3) := by decide +kernel
theorem dX8_ofPlaces_77 : decode cX8_ofPlaces 77 = .ok (.aload_n 0, 1) := by decide +kernel
theorem dX8_ofPlaces_78 : decode cX8_ofPlaces 78 = .ok (.iload 4, 2) := by decide +kernel
theorem dX8_ofPlaces_80 : decode cX8_ofPlaces 80 = .ok (.bipush 8, 2) := by decide +kernel
theorem dX8_ofPlaces_82 : decode cX8_ofPlaces 82 = .ok (.idiv, 1) := by decide +kernel
theorem dX8_ofPlaces_83 : decode cX8_ofPlaces 83 = .ok (.iload_n 1, 1) := by decide +kernel
theorem dX8_ofPlaces_84 : decode cX8_ofPlaces 84 = .ok (.iload 4, 2) := by decide +kernel
theorem dX8_ofPlaces_86 : decode cX8_ofPlaces 86 = .ok (.bipush 8, 2) := by decide +kernel
theorem dX8_ofPlaces_88 : decode cX8_ofPlaces 88 = .ok (.irem, 1) := by decide +kernel
theorem dX8_ofPlaces_89 : decode cX8_ofPlaces 89 = .ok (.invokevirtual 130, 3) := by decide +kernel
theorem dX8_ofPlaces_92 : decode cX8_ofPlaces 92 = .ok (.iadd, 1) := by decide +kernel
theorem dX8_ofPlaces_93 : decode cX8_ofPlaces 93 = .ok (.istore_n 3, 1) := by decide +kernel
theorem dX8_ofPlaces_94 : decode cX8_ofPlaces 94 = .ok (.iinc 4 1, 3) := by decide +kernel
theorem dX8_ofPlaces_97 : decode cX8_ofPlaces 97 = .ok (.goto (-92), 3) := by decide +kernel
theorem dX8_ofPlaces_100 : decode cX8_ofPlaces 100 = .ok (.iload_n 3, 1) := by decide +kernel
theorem dX8_ofPlaces_101 : decode cX8_ofPlaces 101 = .ok (.ireturn, 1) := by decide +kernel
theorem dX8_ofRing_0 : decode cX8_ofRing 0 = .ok (.iload_n 1, 1) := by decide +kernel
theorem dX8_ofRing_1 : decode cX8_ofRing 1 = .ok (.invokestatic 47, 3) := by decide +kernel
theorem dX8_ofRing_4 : decode cX8_ofRing 4 = .ok (.ifCond .ne 5, 3) := by decide +kernel
theorem dX8_ofRing_7 : decode cX8_ofRing 7 = .ok (.iconst (-1), 1) := by decide +kernel
theorem dX8_ofRing_8 : decode cX8_ofRing 8 = .ok (.ireturn, 1) := by decide +kernel
theorem dX8_ofRing_9 : decode cX8_ofRing 9 = .ok (.iload_n 2, 1) := by decide +kernel
theorem dX8_ofRing_10 : decode cX8_ofRing 10 = .ok (.tableswitch 93 0 6 #[42, 56, 66, 80, 86, 86, 86], 42) := by decide +kernel
theorem dX8_ofRing_52 : decode cX8_ofRing 52 = .ok (.aload_n 0, 1) := by decide +kernel
theorem dX8_ofRing_53 : decode cX8_ofRing 53 = .ok (.iload_n 1, 1) := by decide +kernel
theorem dX8_ofRing_54 : decode cX8_ofRing 54 = .ok (.invokevirtual 72, 3) := by decide +kernel
theorem dX8_ofRing_57 : decode cX8_ofRing 57 = .ok (.ifCond .eq 7, 3) := by decide +kernel
theorem dX8_ofRing_60 : decode cX8_ofRing 60 = .ok (.iconst 0, 1) := by decide +kernel
theorem dX8_ofRing_61 : decode cX8_ofRing 61 = .ok (.goto 4, 3) := by decide +kernel
theorem dX8_ofRing_64 : decode cX8_ofRing 64 = .ok (.iconst 1, 1) := by decide +kernel
theorem dX8_ofRing_65 : decode cX8_ofRing 65 = .ok (.ireturn, 1) := by decide +kernel
theorem dX8_ofRing_66 : decode cX8_ofRing 66 = .ok (.aload_n 0, 1) := by decide +kernel
theorem dX8_ofRing_67 : decode cX8_ofRing 67 = .ok (.getfield 7, 3) := by decide +kernel
theorem dX8_ofRing_70 : decode cX8_ofRing 70 = .ok (.bipush 18, 2) := by decide +kernel
theorem dX8_ofRing_72 : decode cX8_ofRing 72 = .ok (.iload_n 1, 1) := by decide +kernel
theorem dX8_ofRing_73 : decode cX8_ofRing 73 = .ok (.iadd, 1) := by decide +kernel
theorem dX8_ofRing_74 : decode cX8_ofRing 74 = .ok (.iaload, 1) := by decide +kernel
theorem dX8_ofRing_75 : decode cX8_ofRing 75 = .ok (.ireturn, 1) := by decide +kernel
theorem dX8_ofRing_76 : decode cX8_ofRing 76 = .ok (.aload_n 0, 1) := by decide +kernel
theorem dX8_ofRing_77 : decode cX8_ofRing 77 = .ok (.iload_n 1, 1) := by decide +kernel
theorem dX8_ofRing_78 : decode cX8_ofRing 78 = .ok (.invokevirtual 92, 3) := by decide +kernel
theorem dX8_ofRing_81 : decode cX8_ofRing 81 = .ok (.ifCond .eq 7, 3) := by decide +kernel
theorem dX8_ofRing_84 : decode cX8_ofRing 84 = .ok (.iconst 1, 1) := by decide +kernel
theorem dX8_ofRing_85 : decode cX8_ofRing 85 = .ok (.goto 4, 3) := by decide +kernel
theorem dX8_ofRing_88 : decode cX8_ofRing 88 = .ok (.iconst 0, 1) := by decide +kernel
theorem dX8_ofRing_89 : decode cX8_ofRing 89 = .ok (.ireturn, 1) := by decide +kernel
theorem dX8_ofRing_90 : decode cX8_ofRing 90 = .ok (.aload_n 0, 1) := by decide +kernel
theorem dX8_ofRing_91 : decode cX8_ofRing 91 = .ok (.iload_n 1, 1) := by decide +kernel
theorem dX8_ofRing_92 : decode cX8_ofRing 92 = .ok (.invokevirtual 133, 3) := by decide +kernel
theorem dX8_ofRing_95 : decode cX8_ofRing 95 = .ok (.ireturn, 1) := by decide +kernel
theorem dX8_ofRing_96 : decode cX8_ofRing 96 = .ok (.aload_n 0, 1) := by decide +kernel
theorem dX8_ofRing_97 : decode cX8_ofRing 97 = .ok (.iload_n 1, 1) := by decide +kernel
theorem dX8_ofRing_98 : decode cX8_ofRing 98 = .ok (.iload_n 2, 1) := by decide +kernel
theorem dX8_ofRing_99 : decode cX8_ofRing 99 = .ok (.invokevirtual 136, 3) := by decide +kernel
theorem dX8_ofRing_102 : decode cX8_ofRing 102 = .ok (.ireturn, 1) := by decide +kernel
theorem dX8_ofRing_103 : decode cX8_ofRing 103 = .ok (.bipush (-2), 2) := by decide +kernel
theorem dX8_ofRing_105 : decode cX8_ofRing 105 = .ok (.ireturn, 1) := by decide +kernel
theorem dX8_ofPlacesIn_0 : decode cX8_ofPlacesIn 0 = .ok (.iconst 0, 1) := by decide +kernel
theorem dX8_ofPlacesIn_1 : decode cX8_ofPlacesIn 1 = .ok (.istore_n 3, 1) := by decide +kernel
theorem dX8_ofPlacesIn_2 : decode cX8_ofPlacesIn 2 = .ok (.iconst 0, 1) := by decide +kernel
theorem dX8_ofPlacesIn_3 : decode cX8_ofPlacesIn 3 = .ok (.istore 4, 2) := by decide +kernel
theorem dX8_ofPlacesIn_5 : decode cX8_ofPlacesIn 5 = .ok (.iload 4, 2) := by decide +kernel
theorem dX8_ofPlacesIn_7 : decode cX8_ofPlacesIn 7 = .ok (.bipush 40, 2) := by decide +kernel
theorem dX8_ofPlacesIn_9 : decode cX8_ofPlacesIn 9 = .ok (.if_icmp .ge 159, 3) := by decide +kernel
theorem dX8_ofPlacesIn_12 : decode cX8_ofPlacesIn 12 = .ok (.iload_n 1, 1) := by decide +kernel
theorem dX8_ofPlacesIn_13 : decode cX8_ofPlacesIn 13 = .ok (.iload 4, 2) := by decide +kernel
theorem dX8_ofPlacesIn_15 : decode cX8_ofPlacesIn 15 = .ok (.bipush 8, 2) := by decide +kernel
theorem dX8_ofPlacesIn_17 : decode cX8_ofPlacesIn 17 = .ok (.idiv, 1) := by decide +kernel
theorem dX8_ofPlacesIn_18 : decode cX8_ofPlacesIn 18 = .ok (.iload 4, 2) := by decide +kernel
theorem dX8_ofPlacesIn_20 : decode cX8_ofPlacesIn 20 = .ok (.bipush 8, 2) := by decide +kernel
theorem dX8_ofPlacesIn_22 : decode cX8_ofPlacesIn 22 = .ok (.irem, 1) := by decide +kernel
theorem dX8_ofPlacesIn_23 : decode cX8_ofPlacesIn 23 = .ok (.invokestatic 61, 3) := by decide +kernel
theorem dX8_ofPlacesIn_26 : decode cX8_ofPlacesIn 26 = .ok (.istore 5, 2) := by decide +kernel
theorem dX8_ofPlacesIn_28 : decode cX8_ofPlacesIn 28 = .ok (.aload_n 0, 1) := by decide +kernel
theorem dX8_ofPlacesIn_29 : decode cX8_ofPlacesIn 29 = .ok (.iload_n 1, 1) := by decide +kernel
theorem dX8_ofPlacesIn_30 : decode cX8_ofPlacesIn 30 = .ok (.iload 4, 2) := by decide +kernel
theorem dX8_ofPlacesIn_32 : decode cX8_ofPlacesIn 32 = .ok (.bipush 8, 2) := by decide +kernel
theorem dX8_ofPlacesIn_34 : decode cX8_ofPlacesIn 34 = .ok (.idiv, 1) := by decide +kernel
theorem dX8_ofPlacesIn_35 : decode cX8_ofPlacesIn 35 = .ok (.iload 4, 2) := by decide +kernel
theorem dX8_ofPlacesIn_37 : decode cX8_ofPlacesIn 37 = .ok (.bipush 8, 2) := by decide +kernel
theorem dX8_ofPlacesIn_39 : decode cX8_ofPlacesIn 39 = .ok (.irem, 1) := by decide +kernel
theorem dX8_ofPlacesIn_40 : decode cX8_ofPlacesIn 40 = .ok (.invokevirtual 68, 3) := by decide +kernel
theorem dX8_ofPlacesIn_43 : decode cX8_ofPlacesIn 43 = .ok (.istore 6, 2) := by decide +kernel
theorem dX8_ofPlacesIn_45 : decode cX8_ofPlacesIn 45 = .ok (.aload_n 0, 1) := by decide +kernel
theorem dX8_ofPlacesIn_46 : decode cX8_ofPlacesIn 46 = .ok (.getfield 7, 3) := by decide +kernel
theorem dX8_ofPlacesIn_49 : decode cX8_ofPlacesIn 49 = .ok (.bipush 18, 2) := by decide +kernel
theorem dX8_ofPlacesIn_51 : decode cX8_ofPlacesIn 51 = .ok (.iload 4, 2) := by decide +kernel
theorem dX8_ofPlacesIn_53 : decode cX8_ofPlacesIn 53 = .ok (.bipush 8, 2) := by decide +kernel
theorem dX8_ofPlacesIn_55 : decode cX8_ofPlacesIn 55 = .ok (.idiv, 1) := by decide +kernel
theorem dX8_ofPlacesIn_56 : decode cX8_ofPlacesIn 56 = .ok (.iadd, 1) := by decide +kernel
theorem dX8_ofPlacesIn_57 : decode cX8_ofPlacesIn 57 = .ok (.iaload, 1) := by decide +kernel
theorem dX8_ofPlacesIn_58 : decode cX8_ofPlacesIn 58 = .ok (.iconst 1, 1) := by decide +kernel
theorem dX8_ofPlacesIn_59 : decode cX8_ofPlacesIn 59 = .ok (.if_icmp .ne 12, 3) := by decide +kernel
theorem dX8_ofPlacesIn_62 : decode cX8_ofPlacesIn 62 = .ok (.iload 6, 2) := by decide +kernel
theorem dX8_ofPlacesIn_64 : decode cX8_ofPlacesIn 64 = .ok (.ifCond .ne 7, 3) := by decide +kernel
theorem dX8_ofPlacesIn_67 : decode cX8_ofPlacesIn 67 = .ok (.iconst 1, 1) := by decide +kernel
theorem dX8_ofPlacesIn_68 : decode cX8_ofPlacesIn 68 = .ok (.goto 4, 3) := by decide +kernel
theorem dX8_ofPlacesIn_71 : decode cX8_ofPlacesIn 71 = .ok (.iconst 0, 1) := by decide +kernel
theorem dX8_ofPlacesIn_72 : decode cX8_ofPlacesIn 72 = .ok (.istore 7, 2) := by decide +kernel
theorem dX8_ofPlacesIn_74 : decode cX8_ofPlacesIn 74 = .ok (.aload_n 0, 1) := by decide +kernel
theorem dX8_ofPlacesIn_75 : decode cX8_ofPlacesIn 75 = .ok (.getfield 7, 3) := by decide +kernel
theorem dX8_ofPlacesIn_78 : decode cX8_ofPlacesIn 78 = .ok (.iload 5, 2) := by decide +kernel
theorem dX8_ofPlacesIn_80 : decode cX8_ofPlacesIn 80 = .ok (.iconst 0, 1) := by decide +kernel
theorem dX8_ofPlacesIn_81 : decode cX8_ofPlacesIn 81 = .ok (.iadd, 1) := by decide +kernel
theorem dX8_ofPlacesIn_82 : decode cX8_ofPlacesIn 82 = .ok (.iaload, 1) := by decide +kernel
theorem dX8_ofPlacesIn_83 : decode cX8_ofPlacesIn 83 = .ok (.iload_n 2, 1) := by decide +kernel
theorem dX8_ofPlacesIn_84 : decode cX8_ofPlacesIn 84 = .ok (.iconst 4, 1) := by decide +kernel
theorem dX8_ofPlacesIn_85 : decode cX8_ofPlacesIn 85 = .ok (.isub, 1) := by decide +kernel
theorem dX8_ofPlacesIn_86 : decode cX8_ofPlacesIn 86 = .ok (.if_icmp .ne 15, 3) := by decide +kernel
theorem dX8_ofPlacesIn_89 : decode cX8_ofPlacesIn 89 = .ok (.aload_n 0, 1) := by decide +kernel
theorem dX8_ofPlacesIn_90 : decode cX8_ofPlacesIn 90 = .ok (.getfield 7, 3) := by decide +kernel
theorem dX8_ofPlacesIn_93 : decode cX8_ofPlacesIn 93 = .ok (.iload 5, 2) := by decide +kernel
theorem dX8_ofPlacesIn_95 : decode cX8_ofPlacesIn 95 = .ok (.iconst 1, 1) := by decide +kernel
theorem dX8_ofPlacesIn_96 : decode cX8_ofPlacesIn 96 = .ok (.iadd, 1) := by decide +kernel
theorem dX8_ofPlacesIn_97 : decode cX8_ofPlacesIn 97 = .ok (.iaload, 1) := by decide +kernel
theorem dX8_ofPlacesIn_98 : decode cX8_ofPlacesIn 98 = .ok (.goto 4, 3) := by decide +kernel
theorem dX8_ofPlacesIn_101 : decode cX8_ofPlacesIn 101 = .ok (.iconst 0, 1) := by decide +kernel
theorem dX8_ofPlacesIn_102 : decode cX8_ofPlacesIn 102 = .ok (.istore 8, 2) := by decide +kernel
theorem dX8_ofPlacesIn_104 : decode cX8_ofPlacesIn 104 = .ok (.iload_n 3, 1) := by decide +kernel
theorem dX8_ofPlacesIn_105 : decode cX8_ofPlacesIn 105 = .ok (.iload_n 2, 1) := by decide +kernel
theorem dX8_ofPlacesIn_106 : decode cX8_ofPlacesIn 106 = .ok (.ifCond .ne 15, 3) := by decide +kernel
theorem dX8_ofPlacesIn_109 : decode cX8_ofPlacesIn 109 = .ok (.aload_n 0, 1) := by decide +kernel
theorem dX8_ofPlacesIn_110 : decode cX8_ofPlacesIn 110 = .ok (.getfield 7, 3) := by decide +kernel
theorem dX8_ofPlacesIn_113 : decode cX8_ofPlacesIn 113 = .ok (.iload 5, 2) := by decide +kernel
theorem dX8_ofPlacesIn_115 : decode cX8_ofPlacesIn 115 = .ok (.iconst 1, 1) := by decide +kernel
theorem dX8_ofPlacesIn_116 : decode cX8_ofPlacesIn 116 = .ok (.iadd, 1) := by decide +kernel
theorem dX8_ofPlacesIn_117 : decode cX8_ofPlacesIn 117 = .ok (.iaload, 1) := by decide +kernel
theorem dX8_ofPlacesIn_118 : decode cX8_ofPlacesIn 118 = .ok (.goto 42, 3) := by decide +kernel
theorem dX8_ofPlacesIn_121 : decode cX8_ofPlacesIn 121 = .ok (.iload_n 2, 1) := by decide +kernel
theorem dX8_ofPlacesIn_122 : decode cX8_ofPlacesIn 122 = .ok (.iconst 1, 1) := by decide +kernel
theorem dX8_ofPlacesIn_123 : decode cX8_ofPlacesIn 123 = .ok (.if_icmp .ne 16, 3) := by decide +kernel
theorem dX8_ofPlacesIn_126 : decode cX8_ofPlacesIn 126 = .ok (.iload 7, 2) := by decide +kernel
theorem dX8_ofPlacesIn_128 : decode cX8_ofPlacesIn 128 = .ok (.ifCond .eq 7, 3) := by decide +kernel
theorem dX8_ofPlacesIn_131 : decode cX8_ofPlacesIn 131 = .ok (.iconst 1, 1) := by decide +kernel
theorem dX8_ofPlacesIn_132 : decode cX8_ofPlacesIn 132 = .ok (.goto 28, 3) := by decide +kernel
theorem dX8_ofPlacesIn_135 : decode cX8_ofPlacesIn 135 = .ok (.iconst 0, 1) := by decide +kernel
theorem dX8_ofPlacesIn_136 : decode cX8_ofPlacesIn 136 = .ok (.goto 24, 3) := by decide +kernel
theorem dX8_ofPlacesIn_139 : decode cX8_ofPlacesIn 139 = .ok (.iload_n 2, 1) := by decide +kernel
theorem dX8_ofPlacesIn_140 : decode cX8_ofPlacesIn 140 = .ok (.bipush 11, 2) := by decide +kernel
theorem dX8_ofPlacesIn_142 : decode cX8_ofPlacesIn 142 = .ok (.if_icmp .ne 16, 3) := by decide +kernel
theorem dX8_ofPlacesIn_145 : decode cX8_ofPlacesIn 145 = .ok (.iload 6, 2) := by decide +kernel
theorem dX8_ofPlacesIn_147 : decode cX8_ofPlacesIn 147 = .ok (.ifCond .eq 7, 3) := by decide +kernel
theorem dX8_ofPlacesIn_150 : decode cX8_ofPlacesIn 150 = .ok (.iconst 1, 1) := by decide +kernel
theorem dX8_ofPlacesIn_151 : decode cX8_ofPlacesIn 151 = .ok (.goto 9, 3) := by decide +kernel
theorem dX8_ofPlacesIn_154 : decode cX8_ofPlacesIn 154 = .ok (.iconst 0, 1) := by decide +kernel
theorem dX8_ofPlacesIn_155 : decode cX8_ofPlacesIn 155 = .ok (.goto 5, 3) := by decide +kernel
theorem dX8_ofPlacesIn_158 : decode cX8_ofPlacesIn 158 = .ok (.iload 8, 2) := by decide +kernel
theorem dX8_ofPlacesIn_160 : decode cX8_ofPlacesIn 160 = .ok (.iadd, 1) := by decide +kernel
theorem dX8_ofPlacesIn_161 : decode cX8_ofPlacesIn 161 = .ok (.istore_n 3, 1) := by decide +kernel
theorem dX8_ofPlacesIn_162 : decode cX8_ofPlacesIn 162 = .ok (.iinc 4 1, 3) := by decide +kernel
theorem dX8_ofPlacesIn_165 : decode cX8_ofPlacesIn 165 = .ok (.goto (-160), 3) := by decide +kernel
theorem dX8_ofPlacesIn_168 : decode cX8_ofPlacesIn 168 = .ok (.iload_n 3, 1) := by decide +kernel
theorem dX8_ofPlacesIn_169 : decode cX8_ofPlacesIn 169 = .ok (.ireturn, 1) := by decide +kernel
theorem dX8_isSwept_0 : decode cX8_isSwept 0 = .ok (.iconst 0, 1) := by decide +kernel
theorem dX8_isSwept_1 : decode cX8_isSwept 1 = .ok (.istore_n 2, 1) := by decide +kernel
theorem dX8_isSwept_2 : decode cX8_isSwept 2 = .ok (.iconst 0, 1) := by decide +kernel
theorem dX8_isSwept_3 : decode cX8_isSwept 3 = .ok (.istore_n 3, 1) := by decide +kernel
theorem dX8_isSwept_4 : decode cX8_isSwept 4 = .ok (.iload_n 3, 1) := by decide +kernel
theorem dX8_isSwept_5 : decode cX8_isSwept 5 = .ok (.aload_n 0, 1) := by decide +kernel
theorem dX8_isSwept_6 : decode cX8_isSwept 6 = .ok (.getfield 7, 3) := by decide +kernel
theorem dX8_isSwept_9 : decode cX8_isSwept 9 = .ok (.bipush 7, 2) := by decide +kernel
theorem dX8_isSwept_11 : decode cX8_isSwept 11 = .ok (.iaload, 1) := by decide +kernel
theorem dX8_isSwept_12 : decode cX8_isSwept 12 = .ok (.if_icmp .ge 27, 3) := by decide +kernel
theorem dX8_isSwept_15 : decode cX8_isSwept 15 = .ok (.iload_n 2, 1) := by decide +kernel
theorem dX8_isSwept_16 : decode cX8_isSwept 16 = .ok (.ifCond .ne 11, 3) := by decide +kernel
theorem dX8_isSwept_19 : decode cX8_isSwept 19 = .ok (.iload_n 3, 1) := by decide +kernel
theorem dX8_isSwept_20 : decode cX8_isSwept 20 = .ok (.invokestatic 95, 3) := by decide +kernel
theorem dX8_isSwept_23 : decode cX8_isSwept 23 = .ok (.iload_n 1, 1) := by decide +kernel
theorem dX8_isSwept_24 : decode cX8_isSwept 24 = .ok (.if_icmp .ne 7, 3) := by decide +kernel
theorem dX8_isSwept_27 : decode cX8_isSwept 27 = .ok (.iconst 1, 1) := by decide +kernel
theorem dX8_isSwept_28 : decode cX8_isSwept 28 = .ok (.goto 4, 3) := by decide +kernel
theorem dX8_isSwept_31 : decode cX8_isSwept 31 = .ok (.iconst 0, 1) := by decide +kernel
theorem dX8_isSwept_32 : decode cX8_isSwept 32 = .ok (.istore_n 2, 1) := by decide +kernel
theorem dX8_isSwept_33 : decode cX8_isSwept 33 = .ok (.iinc 3 1, 3) := by decide +kernel
theorem dX8_isSwept_36 : decode cX8_isSwept 36 = .ok (.goto (-32), 3) := by decide +kernel
theorem dX8_isSwept_39 : decode cX8_isSwept 39 = .ok (.iload_n 2, 1) := by decide +kernel
theorem dX8_isSwept_40 : decode cX8_isSwept 40 = .ok (.ireturn, 1) := by decide +kernel
theorem dX8_ofQuarter_0 : decode cX8_ofQuarter 0 = .ok (.iload_n 1, 1) := by decide +kernel
theorem dX8_ofQuarter_1 : decode cX8_ofQuarter 1 = .ok (.invokestatic 43, 3) := by decide +kernel
theorem dX8_ofQuarter_4 : decode cX8_ofQuarter 4 = .ok (.ifCond .ne 5, 3) := by decide +kernel
theorem dX8_ofQuarter_7 : decode cX8_ofQuarter 7 = .ok (.iconst (-1), 1) := by decide +kernel
theorem dX8_ofQuarter_8 : decode cX8_ofQuarter 8 = .ok (.ireturn, 1) := by decide +kernel
theorem dX8_ofQuarter_9 : decode cX8_ofQuarter 9 = .ok (.iload_n 2, 1) := by decide +kernel
theorem dX8_ofQuarter_10 : decode cX8_ofQuarter 10 = .ok (.tableswitch 103 0 10 #[58, 58, 65, 75, 89, 58, 58, 58, 58, 58, 58], 58) := by decide +kernel
theorem dX8_ofQuarter_68 : decode cX8_ofQuarter 68 = .ok (.aload_n 0, 1) := by decide +kernel
theorem dX8_ofQuarter_69 : decode cX8_ofQuarter 69 = .ok (.iload_n 1, 1) := by decide +kernel
theorem dX8_ofQuarter_70 : decode cX8_ofQuarter 70 = .ok (.iload_n 2, 1) := by decide +kernel
theorem dX8_ofQuarter_71 : decode cX8_ofQuarter 71 = .ok (.invokevirtual 139, 3) := by decide +kernel
theorem dX8_ofQuarter_74 : decode cX8_ofQuarter 74 = .ok (.ireturn, 1) := by decide +kernel
theorem dX8_ofQuarter_75 : decode cX8_ofQuarter 75 = .ok (.aload_n 0, 1) := by decide +kernel
theorem dX8_ofQuarter_76 : decode cX8_ofQuarter 76 = .ok (.getfield 7, 3) := by decide +kernel
theorem dX8_ofQuarter_79 : decode cX8_ofQuarter 79 = .ok (.bipush 8, 2) := by decide +kernel
theorem dX8_ofQuarter_81 : decode cX8_ofQuarter 81 = .ok (.iload_n 1, 1) := by decide +kernel
theorem dX8_ofQuarter_82 : decode cX8_ofQuarter 82 = .ok (.iadd, 1) := by decide +kernel
theorem dX8_ofQuarter_83 : decode cX8_ofQuarter 83 = .ok (.iaload, 1) := by decide +kernel
theorem dX8_ofQuarter_84 : decode cX8_ofQuarter 84 = .ok (.ireturn, 1) := by decide +kernel
theorem dX8_ofQuarter_85 : decode cX8_ofQuarter 85 = .ok (.aload_n 0, 1) := by decide +kernel
theorem dX8_ofQuarter_86 : decode cX8_ofQuarter 86 = .ok (.iload_n 1, 1) := by decide +kernel
theorem dX8_ofQuarter_87 : decode cX8_ofQuarter 87 = .ok (.invokevirtual 54, 3) := by decide +kernel
theorem dX8_ofQuarter_90 : decode cX8_ofQuarter 90 = .ok (.ifCond .eq 7, 3) := by decide +kernel
theorem dX8_ofQuarter_93 : decode cX8_ofQuarter 93 = .ok (.iconst 1, 1) := by decide +kernel
theorem dX8_ofQuarter_94 : decode cX8_ofQuarter 94 = .ok (.goto 4, 3) := by decide +kernel
theorem dX8_ofQuarter_97 : decode cX8_ofQuarter 97 = .ok (.iconst 0, 1) := by decide +kernel
theorem dX8_ofQuarter_98 : decode cX8_ofQuarter 98 = .ok (.ireturn, 1) := by decide +kernel
theorem dX8_ofQuarter_99 : decode cX8_ofQuarter 99 = .ok (.aload_n 0, 1) := by decide +kernel
theorem dX8_ofQuarter_100 : decode cX8_ofQuarter 100 = .ok (.iload_n 1, 1) := by decide +kernel
theorem dX8_ofQuarter_101 : decode cX8_ofQuarter 101 = .ok (.invokevirtual 142, 3) := by decide +kernel
theorem dX8_ofQuarter_104 : decode cX8_ofQuarter 104 = .ok (.ifCond .eq 7, 3) := by decide +kernel
theorem dX8_ofQuarter_107 : decode cX8_ofQuarter 107 = .ok (.iconst 1, 1) := by decide +kernel
theorem dX8_ofQuarter_108 : decode cX8_ofQuarter 108 = .ok (.goto 4, 3) := by decide +kernel
theorem dX8_ofQuarter_111 : decode cX8_ofQuarter 111 = .ok (.iconst 0, 1) := by decide +kernel
theorem dX8_ofQuarter_112 : decode cX8_ofQuarter 112 = .ok (.ireturn, 1) := by decide +kernel
theorem dX8_ofQuarter_113 : decode cX8_ofQuarter 113 = .ok (.bipush (-2), 2) := by decide +kernel
theorem dX8_ofQuarter_115 : decode cX8_ofQuarter 115 = .ok (.ireturn, 1) := by decide +kernel
theorem dX8_ofAll_0 : decode cX8_ofAll 0 = .ok (.iconst 0, 1) := by decide +kernel
theorem dX8_ofAll_1 : decode cX8_ofAll 1 = .ok (.istore_n 3, 1) := by decide +kernel
theorem dX8_ofAll_2 : decode cX8_ofAll 2 = .ok (.iconst 0, 1) := by decide +kernel
theorem dX8_ofAll_3 : decode cX8_ofAll 3 = .ok (.istore 4, 2) := by decide +kernel
theorem dX8_ofAll_5 : decode cX8_ofAll 5 = .ok (.iload 4, 2) := by decide +kernel
theorem dX8_ofAll_7 : decode cX8_ofAll 7 = .ok (.sipush 160, 3) := by decide +kernel
theorem dX8_ofAll_10 : decode cX8_ofAll 10 = .ok (.if_icmp .ge 132, 3) := by decide +kernel
theorem dX8_ofAll_13 : decode cX8_ofAll 13 = .ok (.bipush 63, 2) := by decide +kernel
theorem dX8_ofAll_15 : decode cX8_ofAll 15 = .ok (.iconst 2, 1) := by decide +kernel
theorem dX8_ofAll_16 : decode cX8_ofAll 16 = .ok (.iload 4, 2) := by decide +kernel
theorem dX8_ofAll_18 : decode cX8_ofAll 18 = .ok (.imul, 1) := by decide +kernel
theorem dX8_ofAll_19 : decode cX8_ofAll 19 = .ok (.iadd, 1) := by decide +kernel
theorem dX8_ofAll_20 : decode cX8_ofAll 20 = .ok (.istore 5, 2) := by decide +kernel
theorem dX8_ofAll_22 : decode cX8_ofAll 22 = .ok (.aload_n 0, 1) := by decide +kernel
theorem dX8_ofAll_23 : decode cX8_ofAll 23 = .ok (.iload 4, 2) := by decide +kernel
theorem dX8_ofAll_25 : decode cX8_ofAll 25 = .ok (.bipush 40, 2) := by decide +kernel
theorem dX8_ofAll_27 : decode cX8_ofAll 27 = .ok (.idiv, 1) := by decide +kernel
theorem dX8_ofAll_28 : decode cX8_ofAll 28 = .ok (.iload 4, 2) := by decide +kernel
theorem dX8_ofAll_30 : decode cX8_ofAll 30 = .ok (.bipush 40, 2) := by decide +kernel
theorem dX8_ofAll_32 : decode cX8_ofAll 32 = .ok (.irem, 1) := by decide +kernel
theorem dX8_ofAll_33 : decode cX8_ofAll 33 = .ok (.bipush 8, 2) := by decide +kernel
theorem dX8_ofAll_35 : decode cX8_ofAll 35 = .ok (.idiv, 1) := by decide +kernel
theorem dX8_ofAll_36 : decode cX8_ofAll 36 = .ok (.iload 4, 2) := by decide +kernel
theorem dX8_ofAll_38 : decode cX8_ofAll 38 = .ok (.bipush 8, 2) := by decide +kernel
theorem dX8_ofAll_40 : decode cX8_ofAll 40 = .ok (.irem, 1) := by decide +kernel
theorem dX8_ofAll_41 : decode cX8_ofAll 41 = .ok (.invokevirtual 65, 3) := by decide +kernel
theorem dX8_ofAll_44 : decode cX8_ofAll 44 = .ok (.iload_n 1, 1) := by decide +kernel
theorem dX8_ofAll_45 : decode cX8_ofAll 45 = .ok (.if_icmp .ne 7, 3) := by decide +kernel
theorem dX8_ofAll_48 : decode cX8_ofAll 48 = .ok (.iconst 1, 1) := by decide +kernel
theorem dX8_ofAll_49 : decode cX8_ofAll 49 = .ok (.goto 4, 3) := by decide +kernel
theorem dX8_ofAll_52 : decode cX8_ofAll 52 = .ok (.iconst 0, 1) := by decide +kernel
theorem dX8_ofAll_53 : decode cX8_ofAll 53 = .ok (.istore 6, 2) := by decide +kernel
theorem dX8_ofAll_55 : decode cX8_ofAll 55 = .ok (.aload_n 0, 1) := by decide +kernel
theorem dX8_ofAll_56 : decode cX8_ofAll 56 = .ok (.getfield 7, 3) := by decide +kernel
theorem dX8_ofAll_59 : decode cX8_ofAll 59 = .ok (.iload 5, 2) := by decide +kernel
theorem dX8_ofAll_61 : decode cX8_ofAll 61 = .ok (.iconst 0, 1) := by decide +kernel
theorem dX8_ofAll_62 : decode cX8_ofAll 62 = .ok (.iadd, 1) := by decide +kernel
theorem dX8_ofAll_63 : decode cX8_ofAll 63 = .ok (.iaload, 1) := by decide +kernel
theorem dX8_ofAll_64 : decode cX8_ofAll 64 = .ok (.iload_n 1, 1) := by decide +kernel
theorem dX8_ofAll_65 : decode cX8_ofAll 65 = .ok (.if_icmp .ne 15, 3) := by decide +kernel
theorem dX8_ofAll_68 : decode cX8_ofAll 68 = .ok (.aload_n 0, 1) := by decide +kernel
theorem dX8_ofAll_69 : decode cX8_ofAll 69 = .ok (.getfield 7, 3) := by decide +kernel
theorem dX8_ofAll_72 : decode cX8_ofAll 72 = .ok (.iload 5, 2) := by decide +kernel
theorem dX8_ofAll_74 : decode cX8_ofAll 74 = .ok (.iconst 1, 1) := by decide +kernel
theorem dX8_ofAll_75 : decode cX8_ofAll 75 = .ok (.iadd, 1) := by decide +kernel
theorem dX8_ofAll_76 : decode cX8_ofAll 76 = .ok (.iaload, 1) := by decide +kernel
theorem dX8_ofAll_77 : decode cX8_ofAll 77 = .ok (.goto 4, 3) := by decide +kernel
theorem dX8_ofAll_80 : decode cX8_ofAll 80 = .ok (.iconst 0, 1) := by decide +kernel
theorem dX8_ofAll_81 : decode cX8_ofAll 81 = .ok (.istore 7, 2) := by decide +kernel
theorem dX8_ofAll_83 : decode cX8_ofAll 83 = .ok (.iload_n 3, 1) := by decide +kernel
theorem dX8_ofAll_84 : decode cX8_ofAll 84 = .ok (.iload_n 2, 1) := by decide +kernel
theorem dX8_ofAll_85 : decode cX8_ofAll 85 = .ok (.iconst 2, 1) := by decide +kernel
theorem dX8_ofAll_86 : decode cX8_ofAll 86 = .ok (.if_icmp .ne 8, 3) := by decide +kernel
theorem dX8_ofAll_89 : decode cX8_ofAll 89 = .ok (.iload 7, 2) := by decide +kernel
theorem dX8_ofAll_91 : decode cX8_ofAll 91 = .ok (.goto 43, 3) := by decide +kernel
theorem dX8_ofAll_94 : decode cX8_ofAll 94 = .ok (.iload 6, 2) := by decide +kernel
theorem dX8_ofAll_96 : decode cX8_ofAll 96 = .ok (.ifCond .ne 7, 3) := by decide +kernel
theorem dX8_ofAll_99 : decode cX8_ofAll 99 = .ok (.iconst 0, 1) := by decide +kernel
theorem dX8_ofAll_100 : decode cX8_ofAll 100 = .ok (.goto 34, 3) := by decide +kernel
theorem dX8_ofAll_103 : decode cX8_ofAll 103 = .ok (.iload_n 2, 1) := by decide +kernel
theorem dX8_ofAll_104 : decode cX8_ofAll 104 = .ok (.iconst 3, 1) := by decide +kernel
theorem dX8_ofAll_105 : decode cX8_ofAll 105 = .ok (.if_icmp .ne 7, 3) := by decide +kernel
theorem dX8_ofAll_108 : decode cX8_ofAll 108 = .ok (.iconst 1, 1) := by decide +kernel
theorem dX8_ofAll_109 : decode cX8_ofAll 109 = .ok (.goto 25, 3) := by decide +kernel
theorem dX8_ofAll_112 : decode cX8_ofAll 112 = .ok (.aload_n 0, 1) := by decide +kernel
theorem dX8_ofAll_113 : decode cX8_ofAll 113 = .ok (.iload 4, 2) := by decide +kernel
theorem dX8_ofAll_115 : decode cX8_ofAll 115 = .ok (.bipush 40, 2) := by decide +kernel
theorem dX8_ofAll_117 : decode cX8_ofAll 117 = .ok (.idiv, 1) := by decide +kernel
theorem dX8_ofAll_118 : decode cX8_ofAll 118 = .ok (.iload 4, 2) := by decide +kernel
theorem dX8_ofAll_120 : decode cX8_ofAll 120 = .ok (.bipush 40, 2) := by decide +kernel
theorem dX8_ofAll_122 : decode cX8_ofAll 122 = .ok (.irem, 1) := by decide +kernel
theorem dX8_ofAll_123 : decode cX8_ofAll 123 = .ok (.bipush 8, 2) := by decide +kernel
theorem dX8_ofAll_125 : decode cX8_ofAll 125 = .ok (.idiv, 1) := by decide +kernel
theorem dX8_ofAll_126 : decode cX8_ofAll 126 = .ok (.iload 4, 2) := by decide +kernel
theorem dX8_ofAll_128 : decode cX8_ofAll 128 = .ok (.bipush 8, 2) := by decide +kernel
theorem dX8_ofAll_130 : decode cX8_ofAll 130 = .ok (.irem, 1) := by decide +kernel
theorem dX8_ofAll_131 : decode cX8_ofAll 131 = .ok (.invokevirtual 130, 3) := by decide +kernel
theorem dX8_ofAll_134 : decode cX8_ofAll 134 = .ok (.iadd, 1) := by decide +kernel
theorem dX8_ofAll_135 : decode cX8_ofAll 135 = .ok (.istore_n 3, 1) := by decide +kernel
theorem dX8_ofAll_136 : decode cX8_ofAll 136 = .ok (.iinc 4 1, 3) := by decide +kernel
theorem dX8_ofAll_139 : decode cX8_ofAll 139 = .ok (.goto (-134), 3) := by decide +kernel
theorem dX8_ofAll_142 : decode cX8_ofAll 142 = .ok (.iload_n 3, 1) := by decide +kernel
theorem dX8_ofAll_143 : decode cX8_ofAll 143 = .ok (.ireturn, 1) := by decide +kernel
theorem dX8_ofColour_0 : decode cX8_ofColour 0 = .ok (.iload_n 1, 1) := by decide +kernel
theorem dX8_ofColour_1 : decode cX8_ofColour 1 = .ok (.invokestatic 110, 3) := by decide +kernel
theorem dX8_ofColour_4 : decode cX8_ofColour 4 = .ok (.ifCond .ne 5, 3) := by decide +kernel
theorem dX8_ofColour_7 : decode cX8_ofColour 7 = .ok (.iconst (-1), 1) := by decide +kernel
theorem dX8_ofColour_8 : decode cX8_ofColour 8 = .ok (.ireturn, 1) := by decide +kernel
theorem dX8_ofColour_9 : decode cX8_ofColour 9 = .ok (.iload_n 2, 1) := by decide +kernel
theorem dX8_ofColour_10 : decode cX8_ofColour 10 = .ok (.tableswitch 57 0 4 #[34, 44, 50, 50, 50], 34) := by decide +kernel
theorem dX8_ofColour_44 : decode cX8_ofColour 44 = .ok (.aload_n 0, 1) := by decide +kernel
theorem dX8_ofColour_45 : decode cX8_ofColour 45 = .ok (.getfield 7, 3) := by decide +kernel
theorem dX8_ofColour_48 : decode cX8_ofColour 48 = .ok (.bipush 11, 2) := by decide +kernel
theorem dX8_ofColour_50 : decode cX8_ofColour 50 = .ok (.iload_n 1, 1) := by decide +kernel
theorem dX8_ofColour_51 : decode cX8_ofColour 51 = .ok (.iadd, 1) := by decide +kernel
theorem dX8_ofColour_52 : decode cX8_ofColour 52 = .ok (.iaload, 1) := by decide +kernel
theorem dX8_ofColour_53 : decode cX8_ofColour 53 = .ok (.ireturn, 1) := by decide +kernel
theorem dX8_ofColour_54 : decode cX8_ofColour 54 = .ok (.aload_n 0, 1) := by decide +kernel
theorem dX8_ofColour_55 : decode cX8_ofColour 55 = .ok (.iload_n 1, 1) := by decide +kernel
theorem dX8_ofColour_56 : decode cX8_ofColour 56 = .ok (.invokevirtual 75, 3) := by decide +kernel
theorem dX8_ofColour_59 : decode cX8_ofColour 59 = .ok (.ireturn, 1) := by decide +kernel
theorem dX8_ofColour_60 : decode cX8_ofColour 60 = .ok (.aload_n 0, 1) := by decide +kernel
theorem dX8_ofColour_61 : decode cX8_ofColour 61 = .ok (.iload_n 1, 1) := by decide +kernel
theorem dX8_ofColour_62 : decode cX8_ofColour 62 = .ok (.iload_n 2, 1) := by decide +kernel
theorem dX8_ofColour_63 : decode cX8_ofColour 63 = .ok (.invokevirtual 145, 3) := by decide +kernel
theorem dX8_ofColour_66 : decode cX8_ofColour 66 = .ok (.ireturn, 1) := by decide +kernel
theorem dX8_ofColour_67 : decode cX8_ofColour 67 = .ok (.bipush (-2), 2) := by decide +kernel
theorem dX8_ofColour_69 : decode cX8_ofColour 69 = .ok (.ireturn, 1) := by decide +kernel
theorem dX8_grains_0 : decode cX8_grains 0 = .ok (.iconst 0, 1) := by decide +kernel
theorem dX8_grains_1 : decode cX8_grains 1 = .ok (.istore_n 1, 1) := by decide +kernel
theorem dX8_grains_2 : decode cX8_grains 2 = .ok (.iconst 0, 1) := by decide +kernel
theorem dX8_grains_3 : decode cX8_grains 3 = .ok (.istore_n 2, 1) := by decide +kernel
theorem dX8_grains_4 : decode cX8_grains 4 = .ok (.iload_n 2, 1) := by decide +kernel
theorem dX8_grains_5 : decode cX8_grains 5 = .ok (.iconst 4, 1) := by decide +kernel
theorem dX8_grains_6 : decode cX8_grains 6 = .ok (.if_icmp .ge 18, 3) := by decide +kernel
theorem dX8_grains_9 : decode cX8_grains 9 = .ok (.iload_n 1, 1) := by decide +kernel
theorem dX8_grains_10 : decode cX8_grains 10 = .ok (.aload_n 0, 1) := by decide +kernel
theorem dX8_grains_11 : decode cX8_grains 11 = .ok (.iload_n 2, 1) := by decide +kernel
theorem dX8_grains_12 : decode cX8_grains 12 = .ok (.iconst 0, 1) := by decide +kernel
theorem dX8_grains_13 : decode cX8_grains 13 = .ok (.invokevirtual 139, 3) := by decide +kernel
theorem dX8_grains_16 : decode cX8_grains 16 = .ok (.iadd, 1) := by decide +kernel
theorem dX8_grains_17 : decode cX8_grains 17 = .ok (.istore_n 1, 1) := by decide +kernel
theorem dX8_grains_18 : decode cX8_grains 18 = .ok (.iinc 2 1, 3) := by decide +kernel
theorem dX8_grains_21 : decode cX8_grains 21 = .ok (.goto (-17), 3) := by decide +kernel
theorem dX8_grains_24 : decode cX8_grains 24 = .ok (.iload_n 1, 1) := by decide +kernel
theorem dX8_grains_25 : decode cX8_grains 25 = .ok (.ireturn, 1) := by decide +kernel
theorem dX8_whole_0 : decode cX8_whole 0 = .ok (.iconst 0, 1) := by decide +kernel
theorem dX8_whole_1 : decode cX8_whole 1 = .ok (.istore_n 1, 1) := by decide +kernel
theorem dX8_whole_2 : decode cX8_whole 2 = .ok (.iconst 0, 1) := by decide +kernel
theorem dX8_whole_3 : decode cX8_whole 3 = .ok (.istore_n 2, 1) := by decide +kernel
theorem dX8_whole_4 : decode cX8_whole 4 = .ok (.iload_n 2, 1) := by decide +kernel
theorem dX8_whole_5 : decode cX8_whole 5 = .ok (.iconst 5, 1) := by decide +kernel
theorem dX8_whole_6 : decode cX8_whole 6 = .ok (.if_icmp .ge 27, 3) := by decide +kernel
theorem dX8_whole_9 : decode cX8_whole 9 = .ok (.iload_n 1, 1) := by decide +kernel
theorem dX8_whole_10 : decode cX8_whole 10 = .ok (.aload_n 0, 1) := by decide +kernel
theorem dX8_whole_11 : decode cX8_whole 11 = .ok (.iload_n 2, 1) := by decide +kernel
theorem dX8_whole_12 : decode cX8_whole 12 = .ok (.invokevirtual 92, 3) := by decide +kernel
theorem dX8_whole_15 : decode cX8_whole 15 = .ok (.ifCond .eq 9, 3) := by decide +kernel
theorem dX8_whole_18 : decode cX8_whole 18 = .ok (.iconst 1, 1) := by decide +kernel
theorem dX8_whole_19 : decode cX8_whole 19 = .ok (.iload_n 2, 1) := by decide +kernel
theorem dX8_whole_20 : decode cX8_whole 20 = .ok (.ishl, 1) := by decide +kernel
theorem dX8_whole_21 : decode cX8_whole 21 = .ok (.goto 4, 3) := by decide +kernel
theorem dX8_whole_24 : decode cX8_whole 24 = .ok (.iconst 0, 1) := by decide +kernel
theorem dX8_whole_25 : decode cX8_whole 25 = .ok (.ior, 1) := by decide +kernel
theorem dX8_whole_26 : decode cX8_whole 26 = .ok (.istore_n 1, 1) := by decide +kernel
theorem dX8_whole_27 : decode cX8_whole 27 = .ok (.iinc 2 1, 3) := by decide +kernel
theorem dX8_whole_30 : decode cX8_whole 30 = .ok (.goto (-26), 3) := by decide +kernel
theorem dX8_whole_33 : decode cX8_whole 33 = .ok (.iload_n 1, 1) := by decide +kernel
theorem dX8_whole_34 : decode cX8_whole 34 = .ok (.ireturn, 1) := by decide +kernel
theorem dX8_count_0 : decode cX8_count 0 = .ok (.iload_n 1, 1) := by decide +kernel
theorem dX8_count_1 : decode cX8_count 1 = .ok (.tableswitch 130 0 11 #[63, 70, 77, 84, 92, 97, 102, 110, 110, 110, 120, 125], 63) := by decide +kernel
theorem dX8_count_64 : decode cX8_count 64 = .ok (.aload_n 0, 1) := by decide +kernel
theorem dX8_count_65 : decode cX8_count 65 = .ok (.getfield 7, 3) := by decide +kernel
theorem dX8_count_68 : decode cX8_count 68 = .ok (.iconst 3, 1) := by decide +kernel
theorem dX8_count_69 : decode cX8_count 69 = .ok (.iaload, 1) := by decide +kernel
theorem dX8_count_70 : decode cX8_count 70 = .ok (.ireturn, 1) := by decide +kernel
theorem dX8_count_71 : decode cX8_count 71 = .ok (.aload_n 0, 1) := by decide +kernel
theorem dX8_count_72 : decode cX8_count 72 = .ok (.getfield 7, 3) := by decide +kernel
theorem dX8_count_75 : decode cX8_count 75 = .ok (.iconst 4, 1) := by decide +kernel
theorem dX8_count_76 : decode cX8_count 76 = .ok (.iaload, 1) := by decide +kernel
theorem dX8_count_77 : decode cX8_count 77 = .ok (.ireturn, 1) := by decide +kernel
theorem dX8_count_78 : decode cX8_count 78 = .ok (.aload_n 0, 1) := by decide +kernel
theorem dX8_count_79 : decode cX8_count 79 = .ok (.getfield 7, 3) := by decide +kernel
theorem dX8_count_82 : decode cX8_count 82 = .ok (.iconst 5, 1) := by decide +kernel
theorem dX8_count_83 : decode cX8_count 83 = .ok (.iaload, 1) := by decide +kernel
theorem dX8_count_84 : decode cX8_count 84 = .ok (.ireturn, 1) := by decide +kernel
theorem dX8_count_85 : decode cX8_count 85 = .ok (.aload_n 0, 1) := by decide +kernel
theorem dX8_count_86 : decode cX8_count 86 = .ok (.getfield 7, 3) := by decide +kernel
theorem dX8_count_89 : decode cX8_count 89 = .ok (.bipush 6, 2) := by decide +kernel
theorem dX8_count_91 : decode cX8_count 91 = .ok (.iaload, 1) := by decide +kernel
theorem dX8_count_92 : decode cX8_count 92 = .ok (.ireturn, 1) := by decide +kernel
theorem dX8_count_93 : decode cX8_count 93 = .ok (.aload_n 0, 1) := by decide +kernel
theorem dX8_count_94 : decode cX8_count 94 = .ok (.invokevirtual 148, 3) := by decide +kernel
theorem dX8_count_97 : decode cX8_count 97 = .ok (.ireturn, 1) := by decide +kernel
theorem dX8_count_98 : decode cX8_count 98 = .ok (.aload_n 0, 1) := by decide +kernel
theorem dX8_count_99 : decode cX8_count 99 = .ok (.invokevirtual 151, 3) := by decide +kernel
theorem dX8_count_102 : decode cX8_count 102 = .ok (.ireturn, 1) := by decide +kernel
theorem dX8_count_103 : decode cX8_count 103 = .ok (.aload_n 0, 1) := by decide +kernel
theorem dX8_count_104 : decode cX8_count 104 = .ok (.getfield 7, 3) := by decide +kernel
theorem dX8_count_107 : decode cX8_count 107 = .ok (.bipush 7, 2) := by decide +kernel
theorem dX8_count_109 : decode cX8_count 109 = .ok (.iaload, 1) := by decide +kernel
theorem dX8_count_110 : decode cX8_count 110 = .ok (.ireturn, 1) := by decide +kernel
theorem dX8_count_111 : decode cX8_count 111 = .ok (.aload_n 0, 1) := by decide +kernel
theorem dX8_count_112 : decode cX8_count 112 = .ok (.getfield 7, 3) := by decide +kernel
theorem dX8_count_115 : decode cX8_count 115 = .ok (.iload_n 1, 1) := by decide +kernel
theorem dX8_count_116 : decode cX8_count 116 = .ok (.bipush 7, 2) := by decide +kernel
theorem dX8_count_118 : decode cX8_count 118 = .ok (.isub, 1) := by decide +kernel
theorem dX8_count_119 : decode cX8_count 119 = .ok (.iaload, 1) := by decide +kernel
theorem dX8_count_120 : decode cX8_count 120 = .ok (.ireturn, 1) := by decide +kernel
theorem dX8_count_121 : decode cX8_count 121 = .ok (.aload_n 0, 1) := by decide +kernel
theorem dX8_count_122 : decode cX8_count 122 = .ok (.getfield 154, 3) := by decide +kernel
theorem dX8_count_125 : decode cX8_count 125 = .ok (.ireturn, 1) := by decide +kernel
theorem dX8_count_126 : decode cX8_count 126 = .ok (.aload_n 0, 1) := by decide +kernel
theorem dX8_count_127 : decode cX8_count 127 = .ok (.getfield 50, 3) := by decide +kernel
theorem dX8_count_130 : decode cX8_count 130 = .ok (.ireturn, 1) := by decide +kernel
theorem dX8_count_131 : decode cX8_count 131 = .ok (.bipush (-2), 2) := by decide +kernel
theorem dX8_count_133 : decode cX8_count 133 = .ok (.ireturn, 1) := by decide +kernel
theorem dX8_needed_0 : decode cX8_needed 0 = .ok (.iload_n 1, 1) := by decide +kernel
theorem dX8_needed_1 : decode cX8_needed 1 = .ok (.iconst 0, 1) := by decide +kernel
theorem dX8_needed_2 : decode cX8_needed 2 = .ok (.iconst 4, 1) := by decide +kernel
theorem dX8_needed_3 : decode cX8_needed 3 = .ok (.invokestatic 39, 3) := by decide +kernel
theorem dX8_needed_6 : decode cX8_needed 6 = .ok (.ifCond .ne 6, 3) := by decide +kernel
theorem dX8_needed_9 : decode cX8_needed 9 = .ok (.bipush (-2), 2) := by decide +kernel
theorem dX8_needed_11 : decode cX8_needed 11 = .ok (.ireturn, 1) := by decide +kernel
theorem dX8_needed_12 : decode cX8_needed 12 = .ok (.bipush (-6), 2) := by decide +kernel
theorem dX8_needed_14 : decode cX8_needed 14 = .ok (.istore_n 2, 1) := by decide +kernel
theorem dX8_needed_15 : decode cX8_needed 15 = .ok (.aload_n 0, 1) := by decide +kernel
theorem dX8_needed_16 : decode cX8_needed 16 = .ok (.getfield 7, 3) := by decide +kernel
theorem dX8_needed_19 : decode cX8_needed 19 = .ok (.iconst 0, 1) := by decide +kernel
theorem dX8_needed_20 : decode cX8_needed 20 = .ok (.iaload, 1) := by decide +kernel
theorem dX8_needed_21 : decode cX8_needed 21 = .ok (.istore_n 3, 1) := by decide +kernel
theorem dX8_needed_22 : decode cX8_needed 22 = .ok (.bipush 32, 2) := by decide +kernel
theorem dX8_needed_24 : decode cX8_needed 24 = .ok (.aload_n 0, 1) := by decide +kernel
theorem dX8_needed_25 : decode cX8_needed 25 = .ok (.getfield 7, 3) := by decide +kernel
theorem dX8_needed_28 : decode cX8_needed 28 = .ok (.iconst 3, 1) := by decide +kernel
theorem dX8_needed_29 : decode cX8_needed 29 = .ok (.iaload, 1) := by decide +kernel
theorem dX8_needed_30 : decode cX8_needed 30 = .ok (.imul, 1) := by decide +kernel
theorem dX8_needed_31 : decode cX8_needed 31 = .ok (.istore 4, 2) := by decide +kernel
theorem dX8_needed_33 : decode cX8_needed 33 = .ok (.iload 4, 2) := by decide +kernel
theorem dX8_needed_35 : decode cX8_needed 35 = .ok (.sipush 160, 3) := by decide +kernel
theorem dX8_needed_38 : decode cX8_needed 38 = .ok (.if_icmp .ge 137, 3) := by decide +kernel
theorem dX8_needed_41 : decode cX8_needed 41 = .ok (.iload 4, 2) := by decide +kernel
theorem dX8_needed_43 : decode cX8_needed 43 = .ok (.bipush 32, 2) := by decide +kernel
theorem dX8_needed_45 : decode cX8_needed 45 = .ok (.idiv, 1) := by decide +kernel
theorem dX8_needed_46 : decode cX8_needed 46 = .ok (.istore 5, 2) := by decide +kernel
theorem dX8_needed_48 : decode cX8_needed 48 = .ok (.iload 4, 2) := by decide +kernel
theorem dX8_needed_50 : decode cX8_needed 50 = .ok (.bipush 32, 2) := by decide +kernel
theorem dX8_needed_52 : decode cX8_needed 52 = .ok (.irem, 1) := by decide +kernel
theorem dX8_needed_53 : decode cX8_needed 53 = .ok (.bipush 8, 2) := by decide +kernel
theorem dX8_needed_55 : decode cX8_needed 55 = .ok (.idiv, 1) := by decide +kernel
theorem dX8_needed_56 : decode cX8_needed 56 = .ok (.istore 6, 2) := by decide +kernel
theorem dX8_needed_58 : decode cX8_needed 58 = .ok (.iload 6, 2) := by decide +kernel
theorem dX8_needed_60 : decode cX8_needed 60 = .ok (.iload 5, 2) := by decide +kernel
theorem dX8_needed_62 : decode cX8_needed 62 = .ok (.iload 4, 2) := by decide +kernel
theorem dX8_needed_64 : decode cX8_needed 64 = .ok (.bipush 8, 2) := by decide +kernel
theorem dX8_needed_66 : decode cX8_needed 66 = .ok (.irem, 1) := by decide +kernel
theorem dX8_needed_67 : decode cX8_needed 67 = .ok (.invokestatic 61, 3) := by decide +kernel
theorem dX8_needed_70 : decode cX8_needed 70 = .ok (.istore 7, 2) := by decide +kernel
theorem dX8_needed_72 : decode cX8_needed 72 = .ok (.aload_n 0, 1) := by decide +kernel
theorem dX8_needed_73 : decode cX8_needed 73 = .ok (.iload 6, 2) := by decide +kernel
theorem dX8_needed_75 : decode cX8_needed 75 = .ok (.iload 5, 2) := by decide +kernel
theorem dX8_needed_77 : decode cX8_needed 77 = .ok (.iload 4, 2) := by decide +kernel
theorem dX8_needed_79 : decode cX8_needed 79 = .ok (.bipush 8, 2) := by decide +kernel
theorem dX8_needed_81 : decode cX8_needed 81 = .ok (.irem, 1) := by decide +kernel
theorem dX8_needed_82 : decode cX8_needed 82 = .ok (.invokevirtual 65, 3) := by decide +kernel
theorem dX8_needed_85 : decode cX8_needed 85 = .ok (.istore 8, 2) := by decide +kernel
theorem dX8_needed_87 : decode cX8_needed 87 = .ok (.iload 8, 2) := by decide +kernel
theorem dX8_needed_89 : decode cX8_needed 89 = .ok (.ifCond .le 46, 3) := by decide +kernel
theorem dX8_needed_92 : decode cX8_needed 92 = .ok (.aload_n 0, 1) := by decide +kernel
theorem dX8_needed_93 : decode cX8_needed 93 = .ok (.getfield 7, 3) := by decide +kernel
theorem dX8_needed_96 : decode cX8_needed 96 = .ok (.iload 7, 2) := by decide +kernel
theorem dX8_needed_98 : decode cX8_needed 98 = .ok (.iconst 1, 1) := by decide +kernel
theorem dX8_needed_99 : decode cX8_needed 99 = .ok (.iadd, 1) := by decide +kernel
theorem dX8_needed_100 : decode cX8_needed 100 = .ok (.iaload, 1) := by decide +kernel
theorem dX8_needed_101 : decode cX8_needed 101 = .ok (.ifCond .eq 17, 3) := by decide +kernel
theorem dX8_needed_104 : decode cX8_needed 104 = .ok (.aload_n 0, 1) := by decide +kernel
theorem dX8_needed_105 : decode cX8_needed 105 = .ok (.getfield 7, 3) := by decide +kernel
theorem dX8_needed_108 : decode cX8_needed 108 = .ok (.iload 7, 2) := by decide +kernel
theorem dX8_needed_110 : decode cX8_needed 110 = .ok (.iconst 0, 1) := by decide +kernel
theorem dX8_needed_111 : decode cX8_needed 111 = .ok (.iadd, 1) := by decide +kernel
theorem dX8_needed_112 : decode cX8_needed 112 = .ok (.iaload, 1) := by decide +kernel
theorem dX8_needed_113 : decode cX8_needed 113 = .ok (.iload 8, 2) := by decide +kernel
theorem dX8_needed_115 : decode cX8_needed 115 = .ok (.if_icmp .ne 20, 3) := by decide +kernel
theorem dX8_needed_118 : decode cX8_needed 118 = .ok (.aload_n 0, 1) := by decide +kernel
theorem dX8_needed_119 : decode cX8_needed 119 = .ok (.getfield 7, 3) := by decide +kernel
theorem dX8_needed_122 : decode cX8_needed 122 = .ok (.iload 7, 2) := by decide +kernel
theorem dX8_needed_124 : decode cX8_needed 124 = .ok (.iconst 1, 1) := by decide +kernel
theorem dX8_needed_125 : decode cX8_needed 125 = .ok (.iadd, 1) := by decide +kernel
theorem dX8_needed_126 : decode cX8_needed 126 = .ok (.iaload, 1) := by decide +kernel
theorem dX8_needed_127 : decode cX8_needed 127 = .ok (.iload_n 3, 1) := by decide +kernel
theorem dX8_needed_128 : decode cX8_needed 128 = .ok (.if_icmp .ge 7, 3) := by decide +kernel
theorem dX8_needed_131 : decode cX8_needed 131 = .ok (.iconst 1, 1) := by decide +kernel
theorem dX8_needed_132 : decode cX8_needed 132 = .ok (.goto 4, 3) := by decide +kernel
theorem dX8_needed_135 : decode cX8_needed 135 = .ok (.iconst 0, 1) := by decide +kernel
theorem dX8_needed_136 : decode cX8_needed 136 = .ok (.istore 9, 2) := by decide +kernel
theorem dX8_needed_138 : decode cX8_needed 138 = .ok (.iload 9, 2) := by decide +kernel
theorem dX8_needed_140 : decode cX8_needed 140 = .ok (.ifCond .eq 8, 3) := by decide +kernel
theorem dX8_needed_143 : decode cX8_needed 143 = .ok (.iload 4, 2) := by decide +kernel
theorem dX8_needed_145 : decode cX8_needed 145 = .ok (.goto 4, 3) := by decide +kernel
theorem dX8_needed_148 : decode cX8_needed 148 = .ok (.iload_n 2, 1) := by decide +kernel
theorem dX8_needed_149 : decode cX8_needed 149 = .ok (.istore_n 2, 1) := by decide +kernel
theorem dX8_needed_150 : decode cX8_needed 150 = .ok (.iload 9, 2) := by decide +kernel
theorem dX8_needed_152 : decode cX8_needed 152 = .ok (.ifCond .eq 15, 3) := by decide +kernel
theorem dX8_needed_155 : decode cX8_needed 155 = .ok (.aload_n 0, 1) := by decide +kernel
theorem dX8_needed_156 : decode cX8_needed 156 = .ok (.getfield 7, 3) := by decide +kernel
theorem dX8_needed_159 : decode cX8_needed 159 = .ok (.iload 7, 2) := by decide +kernel
theorem dX8_needed_161 : decode cX8_needed 161 = .ok (.iconst 1, 1) := by decide +kernel
theorem dX8_needed_162 : decode cX8_needed 162 = .ok (.iadd, 1) := by decide +kernel
theorem dX8_needed_163 : decode cX8_needed 163 = .ok (.iaload, 1) := by decide +kernel
theorem dX8_needed_164 : decode cX8_needed 164 = .ok (.goto 4, 3) := by decide +kernel
theorem dX8_needed_167 : decode cX8_needed 167 = .ok (.iload_n 3, 1) := by decide +kernel
theorem dX8_needed_168 : decode cX8_needed 168 = .ok (.istore_n 3, 1) := by decide +kernel
theorem dX8_needed_169 : decode cX8_needed 169 = .ok (.iinc 4 1, 3) := by decide +kernel
theorem dX8_needed_172 : decode cX8_needed 172 = .ok (.goto (-139), 3) := by decide +kernel
theorem dX8_needed_175 : decode cX8_needed 175 = .ok (.iload_n 2, 1) := by decide +kernel
theorem dX8_needed_176 : decode cX8_needed 176 = .ok (.bipush (-6), 2) := by decide +kernel
theorem dX8_needed_178 : decode cX8_needed 178 = .ok (.if_icmp .ne 6, 3) := by decide +kernel
theorem dX8_needed_181 : decode cX8_needed 181 = .ok (.bipush (-6), 2) := by decide +kernel
theorem dX8_needed_183 : decode cX8_needed 183 = .ok (.ireturn, 1) := by decide +kernel
theorem dX8_needed_184 : decode cX8_needed 184 = .ok (.iload_n 2, 1) := by decide +kernel
theorem dX8_needed_185 : decode cX8_needed 185 = .ok (.bipush 32, 2) := by decide +kernel
theorem dX8_needed_187 : decode cX8_needed 187 = .ok (.idiv, 1) := by decide +kernel
theorem dX8_needed_188 : decode cX8_needed 188 = .ok (.istore 4, 2) := by decide +kernel
theorem dX8_needed_190 : decode cX8_needed 190 = .ok (.iload_n 2, 1) := by decide +kernel
theorem dX8_needed_191 : decode cX8_needed 191 = .ok (.bipush 32, 2) := by decide +kernel
theorem dX8_needed_193 : decode cX8_needed 193 = .ok (.irem, 1) := by decide +kernel
theorem dX8_needed_194 : decode cX8_needed 194 = .ok (.bipush 8, 2) := by decide +kernel
theorem dX8_needed_196 : decode cX8_needed 196 = .ok (.idiv, 1) := by decide +kernel
theorem dX8_needed_197 : decode cX8_needed 197 = .ok (.istore 5, 2) := by decide +kernel
theorem dX8_needed_199 : decode cX8_needed 199 = .ok (.iload_n 1, 1) := by decide +kernel
theorem dX8_needed_200 : decode cX8_needed 200 = .ok (.ifCond .ne 8, 3) := by decide +kernel
theorem dX8_needed_203 : decode cX8_needed 203 = .ok (.iload 5, 2) := by decide +kernel
theorem dX8_needed_205 : decode cX8_needed 205 = .ok (.goto 53, 3) := by decide +kernel
theorem dX8_needed_208 : decode cX8_needed 208 = .ok (.iload_n 1, 1) := by decide +kernel
theorem dX8_needed_209 : decode cX8_needed 209 = .ok (.iconst 1, 1) := by decide +kernel
theorem dX8_needed_210 : decode cX8_needed 210 = .ok (.if_icmp .ne 8, 3) := by decide +kernel
theorem dX8_needed_213 : decode cX8_needed 213 = .ok (.iload 4, 2) := by decide +kernel
theorem dX8_needed_215 : decode cX8_needed 215 = .ok (.goto 43, 3) := by decide +kernel
theorem dX8_needed_218 : decode cX8_needed 218 = .ok (.iload_n 1, 1) := by decide +kernel
theorem dX8_needed_219 : decode cX8_needed 219 = .ok (.iconst 2, 1) := by decide +kernel
theorem dX8_needed_220 : decode cX8_needed 220 = .ok (.if_icmp .ne 10, 3) := by decide +kernel
theorem dX8_needed_223 : decode cX8_needed 223 = .ok (.iload_n 2, 1) := by decide +kernel
theorem dX8_needed_224 : decode cX8_needed 224 = .ok (.bipush 8, 2) := by decide +kernel
theorem dX8_needed_226 : decode cX8_needed 226 = .ok (.irem, 1) := by decide +kernel
theorem dX8_needed_227 : decode cX8_needed 227 = .ok (.goto 31, 3) := by decide +kernel
theorem dX8_needed_230 : decode cX8_needed 230 = .ok (.iload_n 1, 1) := by decide +kernel
theorem dX8_needed_231 : decode cX8_needed 231 = .ok (.iconst 3, 1) := by decide +kernel
theorem dX8_needed_232 : decode cX8_needed 232 = .ok (.if_icmp .ne 18, 3) := by decide +kernel
theorem dX8_needed_235 : decode cX8_needed 235 = .ok (.aload_n 0, 1) := by decide +kernel
theorem dX8_needed_236 : decode cX8_needed 236 = .ok (.iload 5, 2) := by decide +kernel
theorem dX8_needed_238 : decode cX8_needed 238 = .ok (.iload 4, 2) := by decide +kernel
theorem dX8_needed_240 : decode cX8_needed 240 = .ok (.iload_n 2, 1) := by decide +kernel
theorem dX8_needed_241 : decode cX8_needed 241 = .ok (.bipush 8, 2) := by decide +kernel
theorem dX8_needed_243 : decode cX8_needed 243 = .ok (.irem, 1) := by decide +kernel
theorem dX8_needed_244 : decode cX8_needed 244 = .ok (.invokevirtual 65, 3) := by decide +kernel
theorem dX8_needed_247 : decode cX8_needed 247 = .ok (.goto 11, 3) := by decide +kernel
theorem dX8_needed_250 : decode cX8_needed 250 = .ok (.aload_n 0, 1) := by decide +kernel
theorem dX8_needed_251 : decode cX8_needed 251 = .ok (.getfield 7, 3) := by decide +kernel
theorem dX8_needed_254 : decode cX8_needed 254 = .ok (.iconst 0, 1) := by decide +kernel
theorem dX8_needed_255 : decode cX8_needed 255 = .ok (.iaload, 1) := by decide +kernel
theorem dX8_needed_256 : decode cX8_needed 256 = .ok (.iload_n 3, 1) := by decide +kernel
theorem dX8_needed_257 : decode cX8_needed 257 = .ok (.isub, 1) := by decide +kernel
theorem dX8_needed_258 : decode cX8_needed 258 = .ok (.ireturn, 1) := by decide +kernel
theorem dX8_lacking_0 : decode cX8_lacking 0 = .ok (.iconst 0, 1) := by decide +kernel
theorem dX8_lacking_1 : decode cX8_lacking 1 = .ok (.istore_n 1, 1) := by decide +kernel
theorem dX8_lacking_2 : decode cX8_lacking 2 = .ok (.iconst 1, 1) := by decide +kernel
theorem dX8_lacking_3 : decode cX8_lacking 3 = .ok (.istore_n 2, 1) := by decide +kernel
theorem dX8_lacking_4 : decode cX8_lacking 4 = .ok (.iload_n 2, 1) := by decide +kernel
theorem dX8_lacking_5 : decode cX8_lacking 5 = .ok (.bipush 6, 2) := by decide +kernel
theorem dX8_lacking_7 : decode cX8_lacking 7 = .ok (.if_icmp .gt 37, 3) := by decide +kernel
theorem dX8_lacking_10 : decode cX8_lacking 10 = .ok (.iload_n 1, 1) := by decide +kernel
theorem dX8_lacking_11 : decode cX8_lacking 11 = .ok (.aload_n 0, 1) := by decide +kernel
theorem dX8_lacking_12 : decode cX8_lacking 12 = .ok (.getfield 7, 3) := by decide +kernel
theorem dX8_lacking_15 : decode cX8_lacking 15 = .ok (.bipush 11, 2) := by decide +kernel
theorem dX8_lacking_17 : decode cX8_lacking 17 = .ok (.iload_n 2, 1) := by decide +kernel
theorem dX8_lacking_18 : decode cX8_lacking 18 = .ok (.iadd, 1) := by decide +kernel
theorem dX8_lacking_19 : decode cX8_lacking 19 = .ok (.iaload, 1) := by decide +kernel
theorem dX8_lacking_20 : decode cX8_lacking 20 = .ok (.aload_n 0, 1) := by decide +kernel
theorem dX8_lacking_21 : decode cX8_lacking 21 = .ok (.iload_n 2, 1) := by decide +kernel
theorem dX8_lacking_22 : decode cX8_lacking 22 = .ok (.iconst 4, 1) := by decide +kernel
theorem dX8_lacking_23 : decode cX8_lacking 23 = .ok (.invokevirtual 145, 3) := by decide +kernel
theorem dX8_lacking_26 : decode cX8_lacking 26 = .ok (.if_icmp .ge 9, 3) := by decide +kernel
theorem dX8_lacking_29 : decode cX8_lacking 29 = .ok (.iconst 1, 1) := by decide +kernel
theorem dX8_lacking_30 : decode cX8_lacking 30 = .ok (.iload_n 2, 1) := by decide +kernel
theorem dX8_lacking_31 : decode cX8_lacking 31 = .ok (.ishl, 1) := by decide +kernel
theorem dX8_lacking_32 : decode cX8_lacking 32 = .ok (.goto 4, 3) := by decide +kernel
theorem dX8_lacking_35 : decode cX8_lacking 35 = .ok (.iconst 0, 1) := by decide +kernel
theorem dX8_lacking_36 : decode cX8_lacking 36 = .ok (.ior, 1) := by decide +kernel
theorem dX8_lacking_37 : decode cX8_lacking 37 = .ok (.istore_n 1, 1) := by decide +kernel
theorem dX8_lacking_38 : decode cX8_lacking 38 = .ok (.iinc 2 1, 3) := by decide +kernel
theorem dX8_lacking_41 : decode cX8_lacking 41 = .ok (.goto (-37), 3) := by decide +kernel
theorem dX8_lacking_44 : decode cX8_lacking 44 = .ok (.iload_n 1, 1) := by decide +kernel
theorem dX8_lacking_45 : decode cX8_lacking 45 = .ok (.ireturn, 1) := by decide +kernel
theorem dX8_turned_0 : decode cX8_turned 0 = .ok (.aload_n 0, 1) := by decide +kernel
theorem dX8_turned_1 : decode cX8_turned 1 = .ok (.iload_n 1, 1) := by decide +kernel
theorem dX8_turned_2 : decode cX8_turned 2 = .ok (.iload_n 2, 1) := by decide +kernel
theorem dX8_turned_3 : decode cX8_turned 3 = .ok (.iload_n 3, 1) := by decide +kernel
theorem dX8_turned_4 : decode cX8_turned 4 = .ok (.invokevirtual 68, 3) := by decide +kernel
theorem dX8_turned_7 : decode cX8_turned 7 = .ok (.istore 6, 2) := by decide +kernel
theorem dX8_turned_9 : decode cX8_turned 9 = .ok (.iload 4, 2) := by decide +kernel
theorem dX8_turned_11 : decode cX8_turned 11 = .ok (.iload 5, 2) := by decide +kernel
theorem dX8_turned_13 : decode cX8_turned 13 = .ok (.if_icmp .ne 14, 3) := by decide +kernel
theorem dX8_turned_16 : decode cX8_turned 16 = .ok (.iload 6, 2) := by decide +kernel
theorem dX8_turned_18 : decode cX8_turned 18 = .ok (.iload 5, 2) := by decide +kernel
theorem dX8_turned_20 : decode cX8_turned 20 = .ok (.if_icmp .eq 7, 3) := by decide +kernel
theorem dX8_turned_23 : decode cX8_turned 23 = .ok (.iconst 1, 1) := by decide +kernel
theorem dX8_turned_24 : decode cX8_turned 24 = .ok (.goto 4, 3) := by decide +kernel
theorem dX8_turned_27 : decode cX8_turned 27 = .ok (.iconst 0, 1) := by decide +kernel
theorem dX8_turned_28 : decode cX8_turned 28 = .ok (.ireturn, 1) := by decide +kernel
theorem dX8_ifBreathed_0 : decode cX8_ifBreathed 0 = .ok (.iload_n 1, 1) := by decide +kernel
theorem dX8_ifBreathed_1 : decode cX8_ifBreathed 1 = .ok (.invokestatic 43, 3) := by decide +kernel
theorem dX8_ifBreathed_4 : decode cX8_ifBreathed 4 = .ok (.ifCond .ne 5, 3) := by decide +kernel
theorem dX8_ifBreathed_7 : decode cX8_ifBreathed 7 = .ok (.iconst (-1), 1) := by decide +kernel
theorem dX8_ifBreathed_8 : decode cX8_ifBreathed 8 = .ok (.ireturn, 1) := by decide +kernel
theorem dX8_ifBreathed_9 : decode cX8_ifBreathed 9 = .ok (.iload_n 2, 1) := by decide +kernel
theorem dX8_ifBreathed_10 : decode cX8_ifBreathed 10 = .ok (.iconst 0, 1) := by decide +kernel
theorem dX8_ifBreathed_11 : decode cX8_ifBreathed 11 = .ok (.iconst 1, 1) := by decide +kernel
theorem dX8_ifBreathed_12 : decode cX8_ifBreathed 12 = .ok (.invokestatic 39, 3) := by decide +kernel
theorem dX8_ifBreathed_15 : decode cX8_ifBreathed 15 = .ok (.ifCond .eq 12, 3) := by decide +kernel
theorem dX8_ifBreathed_18 : decode cX8_ifBreathed 18 = .ok (.iload_n 3, 1) := by decide +kernel
theorem dX8_ifBreathed_19 : decode cX8_ifBreathed 19 = .ok (.iconst 0, 1) := by decide +kernel
theorem dX8_ifBreathed_20 : decode cX8_ifBreathed 20 = .ok (.iconst 2, 1) := by decide +kernel
theorem dX8_ifBreathed_21 : decode cX8_ifBreathed 21 = .ok (.invokestatic 39, 3) := by decide +kernel
theorem dX8_ifBreathed_24 : decode cX8_ifBreathed 24 = .ok (.ifCond .ne 6, 3) := by decide +kernel
theorem dX8_ifBreathed_27 : decode cX8_ifBreathed 27 = .ok (.bipush (-2), 2) := by decide +kernel
theorem dX8_ifBreathed_29 : decode cX8_ifBreathed 29 = .ok (.ireturn, 1) := by decide +kernel
theorem dX8_ifBreathed_30 : decode cX8_ifBreathed 30 = .ok (.aload_n 0, 1) := by decide +kernel
theorem dX8_ifBreathed_31 : decode cX8_ifBreathed 31 = .ok (.invokevirtual 157, 3) := by decide +kernel
theorem dX8_ifBreathed_34 : decode cX8_ifBreathed 34 = .ok (.iconst 0, 1) := by decide +kernel
theorem dX8_ifBreathed_35 : decode cX8_ifBreathed 35 = .ok (.istore 4, 2) := by decide +kernel
theorem dX8_ifBreathed_37 : decode cX8_ifBreathed 37 = .ok (.iconst 0, 1) := by decide +kernel
theorem dX8_ifBreathed_38 : decode cX8_ifBreathed 38 = .ok (.istore 5, 2) := by decide +kernel
theorem dX8_ifBreathed_40 : decode cX8_ifBreathed 40 = .ok (.iconst 0, 1) := by decide +kernel
theorem dX8_ifBreathed_41 : decode cX8_ifBreathed 41 = .ok (.istore 6, 2) := by decide +kernel
theorem dX8_ifBreathed_43 : decode cX8_ifBreathed 43 = .ok (.aload_n 0, 1) := by decide +kernel
theorem dX8_ifBreathed_44 : decode cX8_ifBreathed 44 = .ok (.getfield 7, 3) := by decide +kernel
theorem dX8_ifBreathed_47 : decode cX8_ifBreathed 47 = .ok (.iconst 3, 1) := by decide +kernel
theorem dX8_ifBreathed_48 : decode cX8_ifBreathed 48 = .ok (.iaload, 1) := by decide +kernel
theorem dX8_ifBreathed_49 : decode cX8_ifBreathed 49 = .ok (.istore 7, 2) := by decide +kernel
theorem dX8_ifBreathed_51 : decode cX8_ifBreathed 51 = .ok (.iload 7, 2) := by decide +kernel
theorem dX8_ifBreathed_53 : decode cX8_ifBreathed 53 = .ok (.iconst 5, 1) := by decide +kernel
theorem dX8_ifBreathed_54 : decode cX8_ifBreathed 54 = .ok (.if_icmp .ge 144, 3) := by decide +kernel
theorem dX8_ifBreathed_57 : decode cX8_ifBreathed 57 = .ok (.iconst 0, 1) := by decide +kernel
theorem dX8_ifBreathed_58 : decode cX8_ifBreathed 58 = .ok (.istore 8, 2) := by decide +kernel
theorem dX8_ifBreathed_60 : decode cX8_ifBreathed 60 = .ok (.iconst 0, 1) := by decide +kernel
theorem dX8_ifBreathed_61 : decode cX8_ifBreathed 61 = .ok (.istore 9, 2) := by decide +kernel
theorem dX8_ifBreathed_63 : decode cX8_ifBreathed 63 = .ok (.iload 9, 2) := by decide +kernel
theorem dX8_ifBreathed_65 : decode cX8_ifBreathed 65 = .ok (.bipush 8, 2) := by decide +kernel
theorem dX8_ifBreathed_67 : decode cX8_ifBreathed 67 = .ok (.if_icmp .ge 34, 3) := by decide +kernel
theorem dX8_ifBreathed_70 : decode cX8_ifBreathed 70 = .ok (.iload 8, 2) := by decide +kernel
theorem dX8_ifBreathed_72 : decode cX8_ifBreathed 72 = .ok (.aload_n 0, 1) := by decide +kernel
theorem dX8_ifBreathed_73 : decode cX8_ifBreathed 73 = .ok (.iload_n 1, 1) := by decide +kernel
theorem dX8_ifBreathed_74 : decode cX8_ifBreathed 74 = .ok (.iload 7, 2) := by decide +kernel
theorem dX8_ifBreathed_76 : decode cX8_ifBreathed 76 = .ok (.iload 9, 2) := by decide +kernel
theorem dX8_ifBreathed_78 : decode cX8_ifBreathed 78 = .ok (.invokevirtual 68, 3) := by decide +kernel
theorem dX8_ifBreathed_81 : decode cX8_ifBreathed 81 = .ok (.ifCond .eq 10, 3) := by decide +kernel
theorem dX8_ifBreathed_84 : decode cX8_ifBreathed 84 = .ok (.iconst 1, 1) := by decide +kernel
theorem dX8_ifBreathed_85 : decode cX8_ifBreathed 85 = .ok (.iload 9, 2) := by decide +kernel
theorem dX8_ifBreathed_87 : decode cX8_ifBreathed 87 = .ok (.ishl, 1) := by decide +kernel
theorem dX8_ifBreathed_88 : decode cX8_ifBreathed 88 = .ok (.goto 4, 3) := by decide +kernel
theorem dX8_ifBreathed_91 : decode cX8_ifBreathed 91 = .ok (.iconst 0, 1) := by decide +kernel
theorem dX8_ifBreathed_92 : decode cX8_ifBreathed 92 = .ok (.ior, 1) := by decide +kernel
theorem dX8_ifBreathed_93 : decode cX8_ifBreathed 93 = .ok (.istore 8, 2) := by decide +kernel
theorem dX8_ifBreathed_95 : decode cX8_ifBreathed 95 = .ok (.iinc 9 1, 3) := by decide +kernel
theorem dX8_ifBreathed_98 : decode cX8_ifBreathed 98 = .ok (.goto (-35), 3) := by decide +kernel
theorem dX8_ifBreathed_101 : decode cX8_ifBreathed 101 = .ok (.iload 4, 2) := by decide +kernel
theorem dX8_ifBreathed_103 : decode cX8_ifBreathed 103 = .ok (.aload_n 0, 1) := by decide +kernel
theorem dX8_ifBreathed_104 : decode cX8_ifBreathed 104 = .ok (.iload_n 1, 1) := by decide +kernel
theorem dX8_ifBreathed_105 : decode cX8_ifBreathed 105 = .ok (.iload 7, 2) := by decide +kernel
theorem dX8_ifBreathed_107 : decode cX8_ifBreathed 107 = .ok (.iload_n 2, 1) := by decide +kernel
theorem dX8_ifBreathed_108 : decode cX8_ifBreathed 108 = .ok (.invokevirtual 89, 3) := by decide +kernel
theorem dX8_ifBreathed_111 : decode cX8_ifBreathed 111 = .ok (.iadd, 1) := by decide +kernel
theorem dX8_ifBreathed_112 : decode cX8_ifBreathed 112 = .ok (.istore 4, 2) := by decide +kernel
theorem dX8_ifBreathed_114 : decode cX8_ifBreathed 114 = .ok (.iconst 0, 1) := by decide +kernel
theorem dX8_ifBreathed_115 : decode cX8_ifBreathed 115 = .ok (.istore 9, 2) := by decide +kernel
theorem dX8_ifBreathed_117 : decode cX8_ifBreathed 117 = .ok (.iload 9, 2) := by decide +kernel
theorem dX8_ifBreathed_119 : decode cX8_ifBreathed 119 = .ok (.bipush 8, 2) := by decide +kernel
theorem dX8_ifBreathed_121 : decode cX8_ifBreathed 121 = .ok (.if_icmp .ge 71, 3) := by decide +kernel
theorem dX8_ifBreathed_124 : decode cX8_ifBreathed 124 = .ok (.iload 5, 2) := by decide +kernel
theorem dX8_ifBreathed_126 : decode cX8_ifBreathed 126 = .ok (.aload_n 0, 1) := by decide +kernel
theorem dX8_ifBreathed_127 : decode cX8_ifBreathed 127 = .ok (.iload_n 1, 1) := by decide +kernel
theorem dX8_ifBreathed_128 : decode cX8_ifBreathed 128 = .ok (.iload 7, 2) := by decide +kernel
theorem dX8_ifBreathed_130 : decode cX8_ifBreathed 130 = .ok (.iload 9, 2) := by decide +kernel
theorem dX8_ifBreathed_132 : decode cX8_ifBreathed 132 = .ok (.iload 8, 2) := by decide +kernel
theorem dX8_ifBreathed_134 : decode cX8_ifBreathed 134 = .ok (.iload 9, 2) := by decide +kernel
theorem dX8_ifBreathed_136 : decode cX8_ifBreathed 136 = .ok (.ishr, 1) := by decide +kernel
theorem dX8_ifBreathed_137 : decode cX8_ifBreathed 137 = .ok (.iconst 1, 1) := by decide +kernel
theorem dX8_ifBreathed_138 : decode cX8_ifBreathed 138 = .ok (.iand, 1) := by decide +kernel
theorem dX8_ifBreathed_139 : decode cX8_ifBreathed 139 = .ok (.iconst 1, 1) := by decide +kernel
theorem dX8_ifBreathed_140 : decode cX8_ifBreathed 140 = .ok (.if_icmp .ne 7, 3) := by decide +kernel
theorem dX8_ifBreathed_143 : decode cX8_ifBreathed 143 = .ok (.iconst 1, 1) := by decide +kernel
theorem dX8_ifBreathed_144 : decode cX8_ifBreathed 144 = .ok (.goto 4, 3) := by decide +kernel
theorem dX8_ifBreathed_147 : decode cX8_ifBreathed 147 = .ok (.iconst 0, 1) := by decide +kernel
theorem dX8_ifBreathed_148 : decode cX8_ifBreathed 148 = .ok (.iconst 1, 1) := by decide +kernel
theorem dX8_ifBreathed_149 : decode cX8_ifBreathed 149 = .ok (.invokevirtual 160, 3) := by decide +kernel
theorem dX8_ifBreathed_152 : decode cX8_ifBreathed 152 = .ok (.iadd, 1) := by decide +kernel
theorem dX8_ifBreathed_153 : decode cX8_ifBreathed 153 = .ok (.istore 5, 2) := by decide +kernel
theorem dX8_ifBreathed_155 : decode cX8_ifBreathed 155 = .ok (.iload 6, 2) := by decide +kernel
theorem dX8_ifBreathed_157 : decode cX8_ifBreathed 157 = .ok (.aload_n 0, 1) := by decide +kernel
theorem dX8_ifBreathed_158 : decode cX8_ifBreathed 158 = .ok (.iload_n 1, 1) := by decide +kernel
theorem dX8_ifBreathed_159 : decode cX8_ifBreathed 159 = .ok (.iload 7, 2) := by decide +kernel
theorem dX8_ifBreathed_161 : decode cX8_ifBreathed 161 = .ok (.iload 9, 2) := by decide +kernel
theorem dX8_ifBreathed_163 : decode cX8_ifBreathed 163 = .ok (.iload 8, 2) := by decide +kernel
theorem dX8_ifBreathed_165 : decode cX8_ifBreathed 165 = .ok (.iload 9, 2) := by decide +kernel
theorem dX8_ifBreathed_167 : decode cX8_ifBreathed 167 = .ok (.ishr, 1) := by decide +kernel
theorem dX8_ifBreathed_168 : decode cX8_ifBreathed 168 = .ok (.iconst 1, 1) := by decide +kernel
theorem dX8_ifBreathed_169 : decode cX8_ifBreathed 169 = .ok (.iand, 1) := by decide +kernel
theorem dX8_ifBreathed_170 : decode cX8_ifBreathed 170 = .ok (.iconst 1, 1) := by decide +kernel
theorem dX8_ifBreathed_171 : decode cX8_ifBreathed 171 = .ok (.if_icmp .ne 7, 3) := by decide +kernel
theorem dX8_ifBreathed_174 : decode cX8_ifBreathed 174 = .ok (.iconst 1, 1) := by decide +kernel
theorem dX8_ifBreathed_175 : decode cX8_ifBreathed 175 = .ok (.goto 4, 3) := by decide +kernel
theorem dX8_ifBreathed_178 : decode cX8_ifBreathed 178 = .ok (.iconst 0, 1) := by decide +kernel
theorem dX8_ifBreathed_179 : decode cX8_ifBreathed 179 = .ok (.iconst 0, 1) := by decide +kernel
theorem dX8_ifBreathed_180 : decode cX8_ifBreathed 180 = .ok (.invokevirtual 160, 3) := by decide +kernel
theorem dX8_ifBreathed_183 : decode cX8_ifBreathed 183 = .ok (.iadd, 1) := by decide +kernel
theorem dX8_ifBreathed_184 : decode cX8_ifBreathed 184 = .ok (.istore 6, 2) := by decide +kernel
theorem dX8_ifBreathed_186 : decode cX8_ifBreathed 186 = .ok (.iinc 9 1, 3) := by decide +kernel
theorem dX8_ifBreathed_189 : decode cX8_ifBreathed 189 = .ok (.goto (-72), 3) := by decide +kernel
theorem dX8_ifBreathed_192 : decode cX8_ifBreathed 192 = .ok (.iinc 7 1, 3) := by decide +kernel
theorem dX8_ifBreathed_195 : decode cX8_ifBreathed 195 = .ok (.goto (-144), 3) := by decide +kernel
theorem dX8_ifBreathed_198 : decode cX8_ifBreathed 198 = .ok (.aload_n 0, 1) := by decide +kernel
theorem dX8_ifBreathed_199 : decode cX8_ifBreathed 199 = .ok (.invokevirtual 164, 3) := by decide +kernel
theorem dX8_ifBreathed_202 : decode cX8_ifBreathed 202 = .ok (.iload_n 3, 1) := by decide +kernel
theorem dX8_ifBreathed_203 : decode cX8_ifBreathed 203 = .ok (.ifCond .ne 8, 3) := by decide +kernel
theorem dX8_ifBreathed_206 : decode cX8_ifBreathed 206 = .ok (.iload 4, 2) := by decide +kernel
theorem dX8_ifBreathed_208 : decode cX8_ifBreathed 208 = .ok (.goto 15, 3) := by decide +kernel
theorem dX8_ifBreathed_211 : decode cX8_ifBreathed 211 = .ok (.iload_n 3, 1) := by decide +kernel
theorem dX8_ifBreathed_212 : decode cX8_ifBreathed 212 = .ok (.iconst 1, 1) := by decide +kernel
theorem dX8_ifBreathed_213 : decode cX8_ifBreathed 213 = .ok (.if_icmp .ne 8, 3) := by decide +kernel
theorem dX8_ifBreathed_216 : decode cX8_ifBreathed 216 = .ok (.iload 5, 2) := by decide +kernel
theorem dX8_ifBreathed_218 : decode cX8_ifBreathed 218 = .ok (.goto 5, 3) := by decide +kernel
theorem dX8_ifBreathed_221 : decode cX8_ifBreathed 221 = .ok (.iload 6, 2) := by decide +kernel
theorem dX8_ifBreathed_223 : decode cX8_ifBreathed 223 = .ok (.ireturn, 1) := by decide +kernel
theorem dX8_changes_0 : decode cX8_changes 0 = .ok (.aload_n 0, 1) := by decide +kernel
theorem dX8_changes_1 : decode cX8_changes 1 = .ok (.invokevirtual 98, 3) := by decide +kernel
theorem dX8_changes_4 : decode cX8_changes 4 = .ok (.aload_n 0, 1) := by decide +kernel
theorem dX8_changes_5 : decode cX8_changes 5 = .ok (.iload_n 1, 1) := by decide +kernel
theorem dX8_changes_6 : decode cX8_changes 6 = .ok (.iload_n 2, 1) := by decide +kernel
theorem dX8_changes_7 : decode cX8_changes 7 = .ok (.invokevirtual 120, 3) := by decide +kernel
theorem dX8_changes_10 : decode cX8_changes 10 = .ok (.istore_n 3, 1) := by decide +kernel
theorem dX8_changes_11 : decode cX8_changes 11 = .ok (.iconst 0, 1) := by decide +kernel
theorem dX8_changes_12 : decode cX8_changes 12 = .ok (.istore 4, 2) := by decide +kernel
theorem dX8_changes_14 : decode cX8_changes 14 = .ok (.iload_n 1, 1) := by decide +kernel
theorem dX8_changes_15 : decode cX8_changes 15 = .ok (.iconst 0, 1) := by decide +kernel
theorem dX8_changes_16 : decode cX8_changes 16 = .ok (.iconst 0, 1) := by decide +kernel
theorem dX8_changes_17 : decode cX8_changes 17 = .ok (.invokestatic 61, 3) := by decide +kernel
theorem dX8_changes_20 : decode cX8_changes 20 = .ok (.istore 5, 2) := by decide +kernel
theorem dX8_changes_22 : decode cX8_changes 22 = .ok (.iload 5, 2) := by decide +kernel
theorem dX8_changes_24 : decode cX8_changes 24 = .ok (.iload_n 1, 1) := by decide +kernel
theorem dX8_changes_25 : decode cX8_changes 25 = .ok (.iconst 4, 1) := by decide +kernel
theorem dX8_changes_26 : decode cX8_changes 26 = .ok (.bipush 7, 2) := by decide +kernel
theorem dX8_changes_28 : decode cX8_changes 28 = .ok (.invokestatic 61, 3) := by decide +kernel
theorem dX8_changes_31 : decode cX8_changes 31 = .ok (.iconst 2, 1) := by decide +kernel
theorem dX8_changes_32 : decode cX8_changes 32 = .ok (.iadd, 1) := by decide +kernel
theorem dX8_changes_33 : decode cX8_changes 33 = .ok (.if_icmp .ge 38, 3) := by decide +kernel
theorem dX8_changes_36 : decode cX8_changes 36 = .ok (.iload 4, 2) := by decide +kernel
theorem dX8_changes_38 : decode cX8_changes 38 = .ok (.ifCond .ne 20, 3) := by decide +kernel
theorem dX8_changes_41 : decode cX8_changes 41 = .ok (.aload_n 0, 1) := by decide +kernel
theorem dX8_changes_42 : decode cX8_changes 42 = .ok (.getfield 7, 3) := by decide +kernel
theorem dX8_changes_45 : decode cX8_changes 45 = .ok (.iload 5, 2) := by decide +kernel
theorem dX8_changes_47 : decode cX8_changes 47 = .ok (.iaload, 1) := by decide +kernel
theorem dX8_changes_48 : decode cX8_changes 48 = .ok (.aload_n 0, 1) := by decide +kernel
theorem dX8_changes_49 : decode cX8_changes 49 = .ok (.getfield 13, 3) := by decide +kernel
theorem dX8_changes_52 : decode cX8_changes 52 = .ok (.iload 5, 2) := by decide +kernel
theorem dX8_changes_54 : decode cX8_changes 54 = .ok (.iaload, 1) := by decide +kernel
theorem dX8_changes_55 : decode cX8_changes 55 = .ok (.if_icmp .eq 7, 3) := by decide +kernel
theorem dX8_changes_58 : decode cX8_changes 58 = .ok (.iconst 1, 1) := by decide +kernel
theorem dX8_changes_59 : decode cX8_changes 59 = .ok (.goto 4, 3) := by decide +kernel
theorem dX8_changes_62 : decode cX8_changes 62 = .ok (.iconst 0, 1) := by decide +kernel
theorem dX8_changes_63 : decode cX8_changes 63 = .ok (.istore 4, 2) := by decide +kernel
theorem dX8_changes_65 : decode cX8_changes 65 = .ok (.iinc 5 1, 3) := by decide +kernel
theorem dX8_changes_68 : decode cX8_changes 68 = .ok (.goto (-46), 3) := by decide +kernel
theorem dX8_changes_71 : decode cX8_changes 71 = .ok (.iload 4, 2) := by decide +kernel
theorem dX8_changes_73 : decode cX8_changes 73 = .ok (.ireturn, 1) := by decide +kernel
theorem dX8_settles_0 : decode cX8_settles 0 = .ok (.iload_n 1, 1) := by decide +kernel
theorem dX8_settles_1 : decode cX8_settles 1 = .ok (.invokestatic 43, 3) := by decide +kernel
theorem dX8_settles_4 : decode cX8_settles 4 = .ok (.ifCond .ne 5, 3) := by decide +kernel
theorem dX8_settles_7 : decode cX8_settles 7 = .ok (.iconst (-1), 1) := by decide +kernel
theorem dX8_settles_8 : decode cX8_settles 8 = .ok (.ireturn, 1) := by decide +kernel
theorem dX8_settles_9 : decode cX8_settles 9 = .ok (.iload_n 2, 1) := by decide +kernel
theorem dX8_settles_10 : decode cX8_settles 10 = .ok (.iconst 0, 1) := by decide +kernel
theorem dX8_settles_11 : decode cX8_settles 11 = .ok (.iconst 1, 1) := by decide +kernel
theorem dX8_settles_12 : decode cX8_settles 12 = .ok (.invokestatic 39, 3) := by decide +kernel
theorem dX8_settles_15 : decode cX8_settles 15 = .ok (.ifCond .ne 6, 3) := by decide +kernel
theorem dX8_settles_18 : decode cX8_settles 18 = .ok (.bipush (-2), 2) := by decide +kernel
theorem dX8_settles_20 : decode cX8_settles 20 = .ok (.ireturn, 1) := by decide +kernel
theorem dX8_settles_21 : decode cX8_settles 21 = .ok (.aload_n 0, 1) := by decide +kernel
theorem dX8_settles_22 : decode cX8_settles 22 = .ok (.invokevirtual 157, 3) := by decide +kernel
theorem dX8_settles_25 : decode cX8_settles 25 = .ok (.iconst 0, 1) := by decide +kernel
theorem dX8_settles_26 : decode cX8_settles 26 = .ok (.istore_n 3, 1) := by decide +kernel
theorem dX8_settles_27 : decode cX8_settles 27 = .ok (.iload_n 3, 1) := by decide +kernel
theorem dX8_settles_28 : decode cX8_settles 28 = .ok (.sipush 200, 3) := by decide +kernel
theorem dX8_settles_31 : decode cX8_settles 31 = .ok (.if_icmp .gt 18, 3) := by decide +kernel
theorem dX8_settles_34 : decode cX8_settles 34 = .ok (.aload_n 0, 1) := by decide +kernel
theorem dX8_settles_35 : decode cX8_settles 35 = .ok (.iload_n 1, 1) := by decide +kernel
theorem dX8_settles_36 : decode cX8_settles 36 = .ok (.iload_n 2, 1) := by decide +kernel
theorem dX8_settles_37 : decode cX8_settles 37 = .ok (.invokevirtual 167, 3) := by decide +kernel
theorem dX8_settles_40 : decode cX8_settles 40 = .ok (.ifCond .eq 9, 3) := by decide +kernel
theorem dX8_settles_43 : decode cX8_settles 43 = .ok (.iinc 3 1, 3) := by decide +kernel
theorem dX8_settles_46 : decode cX8_settles 46 = .ok (.goto (-19), 3) := by decide +kernel
theorem dX8_settles_49 : decode cX8_settles 49 = .ok (.aload_n 0, 1) := by decide +kernel
theorem dX8_settles_50 : decode cX8_settles 50 = .ok (.invokevirtual 164, 3) := by decide +kernel
theorem dX8_settles_53 : decode cX8_settles 53 = .ok (.iload_n 3, 1) := by decide +kernel
theorem dX8_settles_54 : decode cX8_settles 54 = .ok (.sipush 200, 3) := by decide +kernel
theorem dX8_settles_57 : decode cX8_settles 57 = .ok (.if_icmp .le 8, 3) := by decide +kernel
theorem dX8_settles_60 : decode cX8_settles 60 = .ok (.bipush (-6), 2) := by decide +kernel
theorem dX8_settles_62 : decode cX8_settles 62 = .ok (.goto 4, 3) := by decide +kernel
theorem dX8_settles_65 : decode cX8_settles 65 = .ok (.iload_n 3, 1) := by decide +kernel
theorem dX8_settles_66 : decode cX8_settles 66 = .ok (.ireturn, 1) := by decide +kernel
theorem dX8_best_0 : decode cX8_best 0 = .ok (.iconst 0, 1) := by decide +kernel
theorem dX8_best_1 : decode cX8_best 1 = .ok (.istore_n 1, 1) := by decide +kernel
theorem dX8_best_2 : decode cX8_best 2 = .ok (.iconst 1, 1) := by decide +kernel
theorem dX8_best_3 : decode cX8_best 3 = .ok (.istore_n 2, 1) := by decide +kernel
theorem dX8_best_4 : decode cX8_best 4 = .ok (.iload_n 2, 1) := by decide +kernel
theorem dX8_best_5 : decode cX8_best 5 = .ok (.iconst 4, 1) := by decide +kernel
theorem dX8_best_6 : decode cX8_best 6 = .ok (.if_icmp .ge 32, 3) := by decide +kernel
theorem dX8_best_9 : decode cX8_best 9 = .ok (.aload_n 0, 1) := by decide +kernel
theorem dX8_best_10 : decode cX8_best 10 = .ok (.iload_n 2, 1) := by decide +kernel
theorem dX8_best_11 : decode cX8_best 11 = .ok (.bipush 11, 2) := by decide +kernel
theorem dX8_best_13 : decode cX8_best 13 = .ok (.invokevirtual 139, 3) := by decide +kernel
theorem dX8_best_16 : decode cX8_best 16 = .ok (.aload_n 0, 1) := by decide +kernel
theorem dX8_best_17 : decode cX8_best 17 = .ok (.iload_n 1, 1) := by decide +kernel
theorem dX8_best_18 : decode cX8_best 18 = .ok (.bipush 11, 2) := by decide +kernel
theorem dX8_best_20 : decode cX8_best 20 = .ok (.invokevirtual 139, 3) := by decide +kernel
theorem dX8_best_23 : decode cX8_best 23 = .ok (.if_icmp .le 7, 3) := by decide +kernel
theorem dX8_best_26 : decode cX8_best 26 = .ok (.iload_n 2, 1) := by decide +kernel
theorem dX8_best_27 : decode cX8_best 27 = .ok (.goto 4, 3) := by decide +kernel
theorem dX8_best_30 : decode cX8_best 30 = .ok (.iload_n 1, 1) := by decide +kernel
theorem dX8_best_31 : decode cX8_best 31 = .ok (.istore_n 1, 1) := by decide +kernel
theorem dX8_best_32 : decode cX8_best 32 = .ok (.iinc 2 1, 3) := by decide +kernel
theorem dX8_best_35 : decode cX8_best 35 = .ok (.goto (-31), 3) := by decide +kernel
theorem dX8_best_38 : decode cX8_best 38 = .ok (.iload_n 1, 1) := by decide +kernel
theorem dX8_best_39 : decode cX8_best 39 = .ok (.ireturn, 1) := by decide +kernel
theorem dX8_isSign_0 : decode cX8_isSign 0 = .ok (.aload_n 0, 1) := by decide +kernel
theorem dX8_isSign_1 : decode cX8_isSign 1 = .ok (.getfield 171, 3) := by decide +kernel
theorem dX8_isSign_4 : decode cX8_isSign 4 = .ok (.aload_n 0, 1) := by decide +kernel
theorem dX8_isSign_5 : decode cX8_isSign 5 = .ok (.getfield 154, 3) := by decide +kernel
theorem dX8_isSign_8 : decode cX8_isSign 8 = .ok (.if_icmp .ge 33, 3) := by decide +kernel
theorem dX8_isSign_11 : decode cX8_isSign 11 = .ok (.aload_n 0, 1) := by decide +kernel
theorem dX8_isSign_12 : decode cX8_isSign 12 = .ok (.getfield 35, 3) := by decide +kernel
theorem dX8_isSign_15 : decode cX8_isSign 15 = .ok (.aload_n 0, 1) := by decide +kernel
theorem dX8_isSign_16 : decode cX8_isSign 16 = .ok (.getfield 171, 3) := by decide +kernel
theorem dX8_isSign_19 : decode cX8_isSign 19 = .ok (.caload, 1) := by decide +kernel
theorem dX8_isSign_20 : decode cX8_isSign 20 = .ok (.iload_n 1, 1) := by decide +kernel
theorem dX8_isSign_21 : decode cX8_isSign 21 = .ok (.if_icmp .lt 20, 3) := by decide +kernel
theorem dX8_isSign_24 : decode cX8_isSign 24 = .ok (.aload_n 0, 1) := by decide +kernel
theorem dX8_isSign_25 : decode cX8_isSign 25 = .ok (.getfield 35, 3) := by decide +kernel
theorem dX8_isSign_28 : decode cX8_isSign 28 = .ok (.aload_n 0, 1) := by decide +kernel
theorem dX8_isSign_29 : decode cX8_isSign 29 = .ok (.getfield 171, 3) := by decide +kernel
theorem dX8_isSign_32 : decode cX8_isSign 32 = .ok (.caload, 1) := by decide +kernel
theorem dX8_isSign_33 : decode cX8_isSign 33 = .ok (.iload_n 2, 1) := by decide +kernel
theorem dX8_isSign_34 : decode cX8_isSign 34 = .ok (.if_icmp .gt 7, 3) := by decide +kernel
theorem dX8_isSign_37 : decode cX8_isSign 37 = .ok (.iconst 1, 1) := by decide +kernel
theorem dX8_isSign_38 : decode cX8_isSign 38 = .ok (.goto 4, 3) := by decide +kernel
theorem dX8_isSign_41 : decode cX8_isSign 41 = .ok (.iconst 0, 1) := by decide +kernel
theorem dX8_isSign_42 : decode cX8_isSign 42 = .ok (.ireturn, 1) := by decide +kernel
theorem dX8_accepts_0 : decode cX8_accepts 0 = .ok (.aload_n 0, 1) := by decide +kernel
theorem dX8_accepts_1 : decode cX8_accepts 1 = .ok (.iload_n 1, 1) := by decide +kernel
theorem dX8_accepts_2 : decode cX8_accepts 2 = .ok (.iload_n 1, 1) := by decide +kernel
theorem dX8_accepts_3 : decode cX8_accepts 3 = .ok (.invokevirtual 174, 3) := by decide +kernel
theorem dX8_accepts_6 : decode cX8_accepts 6 = .ok (.istore_n 2, 1) := by decide +kernel
theorem dX8_accepts_7 : decode cX8_accepts 7 = .ok (.aload_n 0, 1) := by decide +kernel
theorem dX8_accepts_8 : decode cX8_accepts 8 = .ok (.dup, 1) := by decide +kernel
theorem dX8_accepts_9 : decode cX8_accepts 9 = .ok (.getfield 171, 3) := by decide +kernel
theorem dX8_accepts_12 : decode cX8_accepts 12 = .ok (.iload_n 2, 1) := by decide +kernel
theorem dX8_accepts_13 : decode cX8_accepts 13 = .ok (.ifCond .eq 7, 3) := by decide +kernel
theorem dX8_accepts_16 : decode cX8_accepts 16 = .ok (.iconst 1, 1) := by decide +kernel
theorem dX8_accepts_17 : decode cX8_accepts 17 = .ok (.goto 4, 3) := by decide +kernel
theorem dX8_accepts_20 : decode cX8_accepts 20 = .ok (.iconst 0, 1) := by decide +kernel
theorem dX8_accepts_21 : decode cX8_accepts 21 = .ok (.iadd, 1) := by decide +kernel
theorem dX8_accepts_22 : decode cX8_accepts 22 = .ok (.putfield 171, 3) := by decide +kernel
theorem dX8_accepts_25 : decode cX8_accepts 25 = .ok (.iload_n 2, 1) := by decide +kernel
theorem dX8_accepts_26 : decode cX8_accepts 26 = .ok (.ireturn, 1) := by decide +kernel
theorem dX8_digit_0 : decode cX8_digit 0 = .ok (.aload_n 0, 1) := by decide +kernel
theorem dX8_digit_1 : decode cX8_digit 1 = .ok (.iload_n 2, 1) := by decide +kernel
theorem dX8_digit_2 : decode cX8_digit 2 = .ok (.iload_n 3, 1) := by decide +kernel
theorem dX8_digit_3 : decode cX8_digit 3 = .ok (.invokevirtual 174, 3) := by decide +kernel
theorem dX8_digit_6 : decode cX8_digit 6 = .ok (.istore 4, 2) := by decide +kernel
theorem dX8_digit_8 : decode cX8_digit 8 = .ok (.aload_n 0, 1) := by decide +kernel
theorem dX8_digit_9 : decode cX8_digit 9 = .ok (.getfield 32, 3) := by decide +kernel
theorem dX8_digit_12 : decode cX8_digit 12 = .ok (.iconst 5, 1) := by decide +kernel
theorem dX8_digit_13 : decode cX8_digit 13 = .ok (.aload_n 0, 1) := by decide +kernel
theorem dX8_digit_14 : decode cX8_digit 14 = .ok (.getfield 178, 3) := by decide +kernel
theorem dX8_digit_17 : decode cX8_digit 17 = .ok (.imul, 1) := by decide +kernel
theorem dX8_digit_18 : decode cX8_digit 18 = .ok (.iload_n 1, 1) := by decide +kernel
theorem dX8_digit_19 : decode cX8_digit 19 = .ok (.iadd, 1) := by decide +kernel
theorem dX8_digit_20 : decode cX8_digit 20 = .ok (.iload 4, 2) := by decide +kernel
theorem dX8_digit_22 : decode cX8_digit 22 = .ok (.ifCond .eq 18, 3) := by decide +kernel
theorem dX8_digit_25 : decode cX8_digit 25 = .ok (.aload_n 0, 1) := by decide +kernel
theorem dX8_digit_26 : decode cX8_digit 26 = .ok (.getfield 35, 3) := by decide +kernel
theorem dX8_digit_29 : decode cX8_digit 29 = .ok (.aload_n 0, 1) := by decide +kernel
theorem dX8_digit_30 : decode cX8_digit 30 = .ok (.getfield 171, 3) := by decide +kernel
theorem dX8_digit_33 : decode cX8_digit 33 = .ok (.caload, 1) := by decide +kernel
theorem dX8_digit_34 : decode cX8_digit 34 = .ok (.bipush 48, 2) := by decide +kernel
theorem dX8_digit_36 : decode cX8_digit 36 = .ok (.isub, 1) := by decide +kernel
theorem dX8_digit_37 : decode cX8_digit 37 = .ok (.goto 4, 3) := by decide +kernel
theorem dX8_digit_40 : decode cX8_digit 40 = .ok (.iconst 0, 1) := by decide +kernel
theorem dX8_digit_41 : decode cX8_digit 41 = .ok (.iastore, 1) := by decide +kernel
theorem dX8_digit_42 : decode cX8_digit 42 = .ok (.aload_n 0, 1) := by decide +kernel
theorem dX8_digit_43 : decode cX8_digit 43 = .ok (.dup, 1) := by decide +kernel
theorem dX8_digit_44 : decode cX8_digit 44 = .ok (.getfield 171, 3) := by decide +kernel
theorem dX8_digit_47 : decode cX8_digit 47 = .ok (.iload 4, 2) := by decide +kernel
theorem dX8_digit_49 : decode cX8_digit 49 = .ok (.ifCond .eq 7, 3) := by decide +kernel
theorem dX8_digit_52 : decode cX8_digit 52 = .ok (.iconst 1, 1) := by decide +kernel
theorem dX8_digit_53 : decode cX8_digit 53 = .ok (.goto 4, 3) := by decide +kernel
theorem dX8_digit_56 : decode cX8_digit 56 = .ok (.iconst 0, 1) := by decide +kernel
theorem dX8_digit_57 : decode cX8_digit 57 = .ok (.iadd, 1) := by decide +kernel
theorem dX8_digit_58 : decode cX8_digit 58 = .ok (.putfield 171, 3) := by decide +kernel
theorem dX8_digit_61 : decode cX8_digit 61 = .ok (.iload 4, 2) := by decide +kernel
theorem dX8_digit_63 : decode cX8_digit 63 = .ok (.ireturn, 1) := by decide +kernel
theorem dX8_number_0 : decode cX8_number 0 = .ok (.aload_n 0, 1) := by decide +kernel
theorem dX8_number_1 : decode cX8_number 1 = .ok (.iload_n 1, 1) := by decide +kernel
theorem dX8_number_2 : decode cX8_number 2 = .ok (.bipush 48, 2) := by decide +kernel
theorem dX8_number_4 : decode cX8_number 4 = .ok (.bipush 57, 2) := by decide +kernel
theorem dX8_number_6 : decode cX8_number 6 = .ok (.invokevirtual 181, 3) := by decide +kernel
theorem dX8_number_9 : decode cX8_number 9 = .ok (.ifCond .ne 5, 3) := by decide +kernel
theorem dX8_number_12 : decode cX8_number 12 = .ok (.iconst 0, 1) := by decide +kernel
theorem dX8_number_13 : decode cX8_number 13 = .ok (.ireturn, 1) := by decide +kernel
theorem dX8_number_14 : decode cX8_number 14 = .ok (.aload_n 0, 1) := by decide +kernel
theorem dX8_number_15 : decode cX8_number 15 = .ok (.getfield 32, 3) := by decide +kernel
theorem dX8_number_18 : decode cX8_number 18 = .ok (.iconst 5, 1) := by decide +kernel
theorem dX8_number_19 : decode cX8_number 19 = .ok (.aload_n 0, 1) := by decide +kernel
theorem dX8_number_20 : decode cX8_number 20 = .ok (.getfield 178, 3) := by decide +kernel
theorem dX8_number_23 : decode cX8_number 23 = .ok (.imul, 1) := by decide +kernel
theorem dX8_number_24 : decode cX8_number 24 = .ok (.iload_n 1, 1) := by decide +kernel
theorem dX8_number_25 : decode cX8_number 25 = .ok (.iadd, 1) := by decide +kernel
theorem dX8_number_26 : decode cX8_number 26 = .ok (.iaload, 1) := by decide +kernel
theorem dX8_number_27 : decode cX8_number 27 = .ok (.istore_n 2, 1) := by decide +kernel
theorem dX8_number_28 : decode cX8_number 28 = .ok (.iload_n 2, 1) := by decide +kernel
theorem dX8_number_29 : decode cX8_number 29 = .ok (.ifCond .le 54, 3) := by decide +kernel
theorem dX8_number_32 : decode cX8_number 32 = .ok (.aload_n 0, 1) := by decide +kernel
theorem dX8_number_33 : decode cX8_number 33 = .ok (.bipush 48, 2) := by decide +kernel
theorem dX8_number_35 : decode cX8_number 35 = .ok (.bipush 57, 2) := by decide +kernel
theorem dX8_number_37 : decode cX8_number 37 = .ok (.invokevirtual 174, 3) := by decide +kernel
theorem dX8_number_40 : decode cX8_number 40 = .ok (.ifCond .eq 43, 3) := by decide +kernel
theorem dX8_number_43 : decode cX8_number 43 = .ok (.aload_n 0, 1) := by decide +kernel
theorem dX8_number_44 : decode cX8_number 44 = .ok (.getfield 32, 3) := by decide +kernel
theorem dX8_number_47 : decode cX8_number 47 = .ok (.iconst 5, 1) := by decide +kernel
theorem dX8_number_48 : decode cX8_number 48 = .ok (.aload_n 0, 1) := by decide +kernel
theorem dX8_number_49 : decode cX8_number 49 = .ok (.getfield 178, 3) := by decide +kernel
theorem dX8_number_52 : decode cX8_number 52 = .ok (.imul, 1) := by decide +kernel
theorem dX8_number_53 : decode cX8_number 53 = .ok (.iload_n 1, 1) := by decide +kernel
theorem dX8_number_54 : decode cX8_number 54 = .ok (.iadd, 1) := by decide +kernel
theorem dX8_number_55 : decode cX8_number 55 = .ok (.bipush 10, 2) := by decide +kernel
theorem dX8_number_57 : decode cX8_number 57 = .ok (.iload_n 2, 1) := by decide +kernel
theorem dX8_number_58 : decode cX8_number 58 = .ok (.imul, 1) := by decide +kernel
theorem dX8_number_59 : decode cX8_number 59 = .ok (.aload_n 0, 1) := by decide +kernel
theorem dX8_number_60 : decode cX8_number 60 = .ok (.getfield 35, 3) := by decide +kernel
theorem dX8_number_63 : decode cX8_number 63 = .ok (.aload_n 0, 1) := by decide +kernel
theorem dX8_number_64 : decode cX8_number 64 = .ok (.getfield 171, 3) := by decide +kernel
theorem dX8_number_67 : decode cX8_number 67 = .ok (.caload, 1) := by decide +kernel
theorem dX8_number_68 : decode cX8_number 68 = .ok (.iadd, 1) := by decide +kernel
theorem dX8_number_69 : decode cX8_number 69 = .ok (.bipush 48, 2) := by decide +kernel
theorem dX8_number_71 : decode cX8_number 71 = .ok (.isub, 1) := by decide +kernel
theorem dX8_number_72 : decode cX8_number 72 = .ok (.iastore, 1) := by decide +kernel
theorem dX8_number_73 : decode cX8_number 73 = .ok (.aload_n 0, 1) := by decide +kernel
theorem dX8_number_74 : decode cX8_number 74 = .ok (.dup, 1) := by decide +kernel
theorem dX8_number_75 : decode cX8_number 75 = .ok (.getfield 171, 3) := by decide +kernel
theorem dX8_number_78 : decode cX8_number 78 = .ok (.iconst 1, 1) := by decide +kernel
theorem dX8_number_79 : decode cX8_number 79 = .ok (.iadd, 1) := by decide +kernel
theorem dX8_number_80 : decode cX8_number 80 = .ok (.putfield 171, 3) := by decide +kernel
theorem dX8_number_83 : decode cX8_number 83 = .ok (.iconst 1, 1) := by decide +kernel
theorem dX8_number_84 : decode cX8_number 84 = .ok (.ireturn, 1) := by decide +kernel
theorem dX8_colours_0 : decode cX8_colours 0 = .ok (.iconst 0, 1) := by decide +kernel
theorem dX8_colours_1 : decode cX8_colours 1 = .ok (.istore_n 1, 1) := by decide +kernel
theorem dX8_colours_2 : decode cX8_colours 2 = .ok (.iconst 1, 1) := by decide +kernel
theorem dX8_colours_3 : decode cX8_colours 3 = .ok (.istore_n 2, 1) := by decide +kernel
theorem dX8_colours_4 : decode cX8_colours 4 = .ok (.iconst 0, 1) := by decide +kernel
theorem dX8_colours_5 : decode cX8_colours 5 = .ok (.istore_n 3, 1) := by decide +kernel
theorem dX8_colours_6 : decode cX8_colours 6 = .ok (.iload_n 3, 1) := by decide +kernel
theorem dX8_colours_7 : decode cX8_colours 7 = .ok (.bipush 8, 2) := by decide +kernel
theorem dX8_colours_9 : decode cX8_colours 9 = .ok (.if_icmp .ge 51, 3) := by decide +kernel
theorem dX8_colours_12 : decode cX8_colours 12 = .ok (.iload_n 2, 1) := by decide +kernel
theorem dX8_colours_13 : decode cX8_colours 13 = .ok (.ifCond .eq 47, 3) := by decide +kernel
theorem dX8_colours_16 : decode cX8_colours 16 = .ok (.aload_n 0, 1) := by decide +kernel
theorem dX8_colours_17 : decode cX8_colours 17 = .ok (.iconst 3, 1) := by decide +kernel
theorem dX8_colours_18 : decode cX8_colours 18 = .ok (.bipush 48, 2) := by decide +kernel
theorem dX8_colours_20 : decode cX8_colours 20 = .ok (.bipush 54, 2) := by decide +kernel
theorem dX8_colours_22 : decode cX8_colours 22 = .ok (.invokevirtual 181, 3) := by decide +kernel
theorem dX8_colours_25 : decode cX8_colours 25 = .ok (.istore_n 2, 1) := by decide +kernel
theorem dX8_colours_26 : decode cX8_colours 26 = .ok (.iload_n 1, 1) := by decide +kernel
theorem dX8_colours_27 : decode cX8_colours 27 = .ok (.iload_n 2, 1) := by decide +kernel
theorem dX8_colours_28 : decode cX8_colours 28 = .ok (.ifCond .eq 23, 3) := by decide +kernel
theorem dX8_colours_31 : decode cX8_colours 31 = .ok (.aload_n 0, 1) := by decide +kernel
theorem dX8_colours_32 : decode cX8_colours 32 = .ok (.getfield 32, 3) := by decide +kernel
theorem dX8_colours_35 : decode cX8_colours 35 = .ok (.iconst 5, 1) := by decide +kernel
theorem dX8_colours_36 : decode cX8_colours 36 = .ok (.aload_n 0, 1) := by decide +kernel
theorem dX8_colours_37 : decode cX8_colours 37 = .ok (.getfield 178, 3) := by decide +kernel
theorem dX8_colours_40 : decode cX8_colours 40 = .ok (.imul, 1) := by decide +kernel
theorem dX8_colours_41 : decode cX8_colours 41 = .ok (.iconst 3, 1) := by decide +kernel
theorem dX8_colours_42 : decode cX8_colours 42 = .ok (.iadd, 1) := by decide +kernel
theorem dX8_colours_43 : decode cX8_colours 43 = .ok (.iaload, 1) := by decide +kernel
theorem dX8_colours_44 : decode cX8_colours 44 = .ok (.iconst 3, 1) := by decide +kernel
theorem dX8_colours_45 : decode cX8_colours 45 = .ok (.iload_n 3, 1) := by decide +kernel
theorem dX8_colours_46 : decode cX8_colours 46 = .ok (.imul, 1) := by decide +kernel
theorem dX8_colours_47 : decode cX8_colours 47 = .ok (.ishl, 1) := by decide +kernel
theorem dX8_colours_48 : decode cX8_colours 48 = .ok (.goto 4, 3) := by decide +kernel
theorem dX8_colours_51 : decode cX8_colours 51 = .ok (.iconst 0, 1) := by decide +kernel
theorem dX8_colours_52 : decode cX8_colours 52 = .ok (.iadd, 1) := by decide +kernel
theorem dX8_colours_53 : decode cX8_colours 53 = .ok (.istore_n 1, 1) := by decide +kernel
theorem dX8_colours_54 : decode cX8_colours 54 = .ok (.iinc 3 1, 3) := by decide +kernel
theorem dX8_colours_57 : decode cX8_colours 57 = .ok (.goto (-51), 3) := by decide +kernel
theorem dX8_colours_60 : decode cX8_colours 60 = .ok (.aload_n 0, 1) := by decide +kernel
theorem dX8_colours_61 : decode cX8_colours 61 = .ok (.getfield 32, 3) := by decide +kernel
theorem dX8_colours_64 : decode cX8_colours 64 = .ok (.iconst 5, 1) := by decide +kernel
theorem dX8_colours_65 : decode cX8_colours 65 = .ok (.aload_n 0, 1) := by decide +kernel
theorem dX8_colours_66 : decode cX8_colours 66 = .ok (.getfield 178, 3) := by decide +kernel
theorem dX8_colours_69 : decode cX8_colours 69 = .ok (.imul, 1) := by decide +kernel
theorem dX8_colours_70 : decode cX8_colours 70 = .ok (.iconst 2, 1) := by decide +kernel
theorem dX8_colours_71 : decode cX8_colours 71 = .ok (.iadd, 1) := by decide +kernel
theorem dX8_colours_72 : decode cX8_colours 72 = .ok (.iload_n 1, 1) := by decide +kernel
theorem dX8_colours_73 : decode cX8_colours 73 = .ok (.iastore, 1) := by decide +kernel
theorem dX8_colours_74 : decode cX8_colours 74 = .ok (.iload_n 2, 1) := by decide +kernel
theorem dX8_colours_75 : decode cX8_colours 75 = .ok (.ireturn, 1) := by decide +kernel
theorem dX8_direction_0 : decode cX8_direction 0 = .ok (.aload_n 0, 1) := by decide +kernel
theorem dX8_direction_1 : decode cX8_direction 1 = .ok (.bipush 43, 2) := by decide +kernel
theorem dX8_direction_3 : decode cX8_direction 3 = .ok (.invokevirtual 185, 3) := by decide +kernel
theorem dX8_direction_6 : decode cX8_direction 6 = .ok (.istore_n 1, 1) := by decide +kernel
theorem dX8_direction_7 : decode cX8_direction 7 = .ok (.aload_n 0, 1) := by decide +kernel
theorem dX8_direction_8 : decode cX8_direction 8 = .ok (.getfield 32, 3) := by decide +kernel
theorem dX8_direction_11 : decode cX8_direction 11 = .ok (.iconst 5, 1) := by decide +kernel
theorem dX8_direction_12 : decode cX8_direction 12 = .ok (.aload_n 0, 1) := by decide +kernel
theorem dX8_direction_13 : decode cX8_direction 13 = .ok (.getfield 178, 3) := by decide +kernel
theorem dX8_direction_16 : decode cX8_direction 16 = .ok (.imul, 1) := by decide +kernel
theorem dX8_direction_17 : decode cX8_direction 17 = .ok (.iconst 2, 1) := by decide +kernel
theorem dX8_direction_18 : decode cX8_direction 18 = .ok (.iadd, 1) := by decide +kernel
theorem dX8_direction_19 : decode cX8_direction 19 = .ok (.iload_n 1, 1) := by decide +kernel
theorem dX8_direction_20 : decode cX8_direction 20 = .ok (.ifCond .eq 7, 3) := by decide +kernel
theorem dX8_direction_23 : decode cX8_direction 23 = .ok (.iconst 0, 1) := by decide +kernel
theorem dX8_direction_24 : decode cX8_direction 24 = .ok (.goto 4, 3) := by decide +kernel
theorem dX8_direction_27 : decode cX8_direction 27 = .ok (.iconst 1, 1) := by decide +kernel
theorem dX8_direction_28 : decode cX8_direction 28 = .ok (.iastore, 1) := by decide +kernel
theorem dX8_direction_29 : decode cX8_direction 29 = .ok (.iload_n 1, 1) := by decide +kernel
theorem dX8_direction_30 : decode cX8_direction 30 = .ok (.ifCond .ne 12, 3) := by decide +kernel
theorem dX8_direction_33 : decode cX8_direction 33 = .ok (.aload_n 0, 1) := by decide +kernel
theorem dX8_direction_34 : decode cX8_direction 34 = .ok (.bipush 45, 2) := by decide +kernel
theorem dX8_direction_36 : decode cX8_direction 36 = .ok (.invokevirtual 185, 3) := by decide +kernel
theorem dX8_direction_39 : decode cX8_direction 39 = .ok (.ifCond .eq 7, 3) := by decide +kernel
theorem dX8_direction_42 : decode cX8_direction 42 = .ok (.iconst 1, 1) := by decide +kernel
theorem dX8_direction_43 : decode cX8_direction 43 = .ok (.goto 4, 3) := by decide +kernel
theorem dX8_direction_46 : decode cX8_direction 46 = .ok (.iconst 0, 1) := by decide +kernel
theorem dX8_direction_47 : decode cX8_direction 47 = .ok (.ireturn, 1) := by decide +kernel
theorem dX8_readsOrder_0 : decode cX8_readsOrder 0 = .ok (.aload_n 0, 1) := by decide +kernel
theorem dX8_readsOrder_1 : decode cX8_readsOrder 1 = .ok (.getfield 32, 3) := by decide +kernel
theorem dX8_readsOrder_4 : decode cX8_readsOrder 4 = .ok (.iconst 5, 1) := by decide +kernel
theorem dX8_readsOrder_5 : decode cX8_readsOrder 5 = .ok (.aload_n 0, 1) := by decide +kernel
theorem dX8_readsOrder_6 : decode cX8_readsOrder 6 = .ok (.getfield 178, 3) := by decide +kernel
theorem dX8_readsOrder_9 : decode cX8_readsOrder 9 = .ok (.imul, 1) := by decide +kernel
theorem dX8_readsOrder_10 : decode cX8_readsOrder 10 = .ok (.aload_n 0, 1) := by decide +kernel
theorem dX8_readsOrder_11 : decode cX8_readsOrder 11 = .ok (.getfield 171, 3) := by decide +kernel
theorem dX8_readsOrder_14 : decode cX8_readsOrder 14 = .ok (.aload_n 0, 1) := by decide +kernel
theorem dX8_readsOrder_15 : decode cX8_readsOrder 15 = .ok (.getfield 154, 3) := by decide +kernel
theorem dX8_readsOrder_18 : decode cX8_readsOrder 18 = .ok (.if_icmp .ge 15, 3) := by decide +kernel
theorem dX8_readsOrder_21 : decode cX8_readsOrder 21 = .ok (.aload_n 0, 1) := by decide +kernel
theorem dX8_readsOrder_22 : decode cX8_readsOrder 22 = .ok (.getfield 35, 3) := by decide +kernel
theorem dX8_readsOrder_25 : decode cX8_readsOrder 25 = .ok (.aload_n 0, 1) := by decide +kernel
theorem dX8_readsOrder_26 : decode cX8_readsOrder 26 = .ok (.getfield 171, 3) := by decide +kernel
theorem dX8_readsOrder_29 : decode cX8_readsOrder 29 = .ok (.caload, 1) := by decide +kernel
theorem dX8_readsOrder_30 : decode cX8_readsOrder 30 = .ok (.goto 4, 3) := by decide +kernel
theorem dX8_readsOrder_33 : decode cX8_readsOrder 33 = .ok (.iconst 0, 1) := by decide +kernel
theorem dX8_readsOrder_34 : decode cX8_readsOrder 34 = .ok (.iastore, 1) := by decide +kernel
theorem dX8_readsOrder_35 : decode cX8_readsOrder 35 = .ok (.aload_n 0, 1) := by decide +kernel
theorem dX8_readsOrder_36 : decode cX8_readsOrder 36 = .ok (.bipush 104, 2) := by decide +kernel
theorem dX8_readsOrder_38 : decode cX8_readsOrder 38 = .ok (.invokevirtual 185, 3) := by decide +kernel
theorem dX8_readsOrder_41 : decode cX8_readsOrder 41 = .ok (.ifCond .eq 36, 3) := by decide +kernel
theorem dX8_readsOrder_44 : decode cX8_readsOrder 44 = .ok (.aload_n 0, 1) := by decide +kernel
theorem dX8_readsOrder_45 : decode cX8_readsOrder 45 = .ok (.iconst 1, 1) := by decide +kernel
theorem dX8_readsOrder_46 : decode cX8_readsOrder 46 = .ok (.bipush 48, 2) := by decide +kernel
theorem dX8_readsOrder_48 : decode cX8_readsOrder 48 = .ok (.bipush 57, 2) := by decide +kernel
theorem dX8_readsOrder_50 : decode cX8_readsOrder 50 = .ok (.invokevirtual 181, 3) := by decide +kernel
theorem dX8_readsOrder_53 : decode cX8_readsOrder 53 = .ok (.ifCond .eq 19, 3) := by decide +kernel
theorem dX8_readsOrder_56 : decode cX8_readsOrder 56 = .ok (.aload_n 0, 1) := by decide +kernel
theorem dX8_readsOrder_57 : decode cX8_readsOrder 57 = .ok (.iconst 2, 1) := by decide +kernel
theorem dX8_readsOrder_58 : decode cX8_readsOrder 58 = .ok (.bipush 49, 2) := by decide +kernel
theorem dX8_readsOrder_60 : decode cX8_readsOrder 60 = .ok (.bipush 54, 2) := by decide +kernel
theorem dX8_readsOrder_62 : decode cX8_readsOrder 62 = .ok (.invokevirtual 181, 3) := by decide +kernel
theorem dX8_readsOrder_65 : decode cX8_readsOrder 65 = .ok (.ifCond .eq 7, 3) := by decide +kernel
theorem dX8_readsOrder_68 : decode cX8_readsOrder 68 = .ok (.iconst 1, 1) := by decide +kernel
theorem dX8_readsOrder_69 : decode cX8_readsOrder 69 = .ok (.goto 4, 3) := by decide +kernel
theorem dX8_readsOrder_72 : decode cX8_readsOrder 72 = .ok (.iconst 0, 1) := by decide +kernel
theorem dX8_readsOrder_73 : decode cX8_readsOrder 73 = .ok (.istore_n 1, 1) := by decide +kernel
theorem dX8_readsOrder_74 : decode cX8_readsOrder 74 = .ok (.goto 218, 3) := by decide +kernel
theorem dX8_readsOrder_77 : decode cX8_readsOrder 77 = .ok (.aload_n 0, 1) := by decide +kernel
theorem dX8_readsOrder_78 : decode cX8_readsOrder 78 = .ok (.bipush 112, 2) := by decide +kernel
theorem dX8_readsOrder_80 : decode cX8_readsOrder 80 = .ok (.invokevirtual 185, 3) := by decide +kernel
theorem dX8_readsOrder_83 : decode cX8_readsOrder 83 = .ok (.ifCond .eq 65, 3) := by decide +kernel
theorem dX8_readsOrder_86 : decode cX8_readsOrder 86 = .ok (.aload_n 0, 1) := by decide +kernel
theorem dX8_readsOrder_87 : decode cX8_readsOrder 87 = .ok (.iconst 1, 1) := by decide +kernel
theorem dX8_readsOrder_88 : decode cX8_readsOrder 88 = .ok (.bipush 48, 2) := by decide +kernel
theorem dX8_readsOrder_90 : decode cX8_readsOrder 90 = .ok (.bipush 57, 2) := by decide +kernel
theorem dX8_readsOrder_92 : decode cX8_readsOrder 92 = .ok (.invokevirtual 181, 3) := by decide +kernel
theorem dX8_readsOrder_95 : decode cX8_readsOrder 95 = .ok (.ifCond .eq 48, 3) := by decide +kernel
theorem dX8_readsOrder_98 : decode cX8_readsOrder 98 = .ok (.aload_n 0, 1) := by decide +kernel
theorem dX8_readsOrder_99 : decode cX8_readsOrder 99 = .ok (.iconst 2, 1) := by decide +kernel
theorem dX8_readsOrder_100 : decode cX8_readsOrder 100 = .ok (.bipush 48, 2) := by decide +kernel
theorem dX8_readsOrder_102 : decode cX8_readsOrder 102 = .ok (.bipush 57, 2) := by decide +kernel
theorem dX8_readsOrder_104 : decode cX8_readsOrder 104 = .ok (.invokevirtual 181, 3) := by decide +kernel
theorem dX8_readsOrder_107 : decode cX8_readsOrder 107 = .ok (.ifCond .eq 36, 3) := by decide +kernel
theorem dX8_readsOrder_110 : decode cX8_readsOrder 110 = .ok (.aload_n 0, 1) := by decide +kernel
theorem dX8_readsOrder_111 : decode cX8_readsOrder 111 = .ok (.iconst 3, 1) := by decide +kernel
theorem dX8_readsOrder_112 : decode cX8_readsOrder 112 = .ok (.bipush 48, 2) := by decide +kernel
theorem dX8_readsOrder_114 : decode cX8_readsOrder 114 = .ok (.bipush 57, 2) := by decide +kernel
theorem dX8_readsOrder_116 : decode cX8_readsOrder 116 = .ok (.invokevirtual 181, 3) := by decide +kernel
theorem dX8_readsOrder_119 : decode cX8_readsOrder 119 = .ok (.ifCond .eq 24, 3) := by decide +kernel
theorem dX8_readsOrder_122 : decode cX8_readsOrder 122 = .ok (.aload_n 0, 1) := by decide +kernel
theorem dX8_readsOrder_123 : decode cX8_readsOrder 123 = .ok (.bipush 42, 2) := by decide +kernel
theorem dX8_readsOrder_125 : decode cX8_readsOrder 125 = .ok (.invokevirtual 185, 3) := by decide +kernel
theorem dX8_readsOrder_128 : decode cX8_readsOrder 128 = .ok (.ifCond .eq 15, 3) := by decide +kernel
theorem dX8_readsOrder_131 : decode cX8_readsOrder 131 = .ok (.aload_n 0, 1) := by decide +kernel
theorem dX8_readsOrder_132 : decode cX8_readsOrder 132 = .ok (.iconst 4, 1) := by decide +kernel
theorem dX8_readsOrder_133 : decode cX8_readsOrder 133 = .ok (.invokevirtual 189, 3) := by decide +kernel
theorem dX8_readsOrder_136 : decode cX8_readsOrder 136 = .ok (.ifCond .eq 7, 3) := by decide +kernel
theorem dX8_readsOrder_139 : decode cX8_readsOrder 139 = .ok (.iconst 1, 1) := by decide +kernel
theorem dX8_readsOrder_140 : decode cX8_readsOrder 140 = .ok (.goto 4, 3) := by decide +kernel
theorem dX8_readsOrder_143 : decode cX8_readsOrder 143 = .ok (.iconst 0, 1) := by decide +kernel
theorem dX8_readsOrder_144 : decode cX8_readsOrder 144 = .ok (.istore_n 1, 1) := by decide +kernel
theorem dX8_readsOrder_145 : decode cX8_readsOrder 145 = .ok (.goto 147, 3) := by decide +kernel
theorem dX8_readsOrder_148 : decode cX8_readsOrder 148 = .ok (.aload_n 0, 1) := by decide +kernel
theorem dX8_readsOrder_149 : decode cX8_readsOrder 149 = .ok (.bipush 115, 2) := by decide +kernel
theorem dX8_readsOrder_151 : decode cX8_readsOrder 151 = .ok (.invokevirtual 185, 3) := by decide +kernel
theorem dX8_readsOrder_154 : decode cX8_readsOrder 154 = .ok (.ifCond .eq 48, 3) := by decide +kernel
theorem dX8_readsOrder_157 : decode cX8_readsOrder 157 = .ok (.aload_n 0, 1) := by decide +kernel
theorem dX8_readsOrder_158 : decode cX8_readsOrder 158 = .ok (.iconst 1, 1) := by decide +kernel
theorem dX8_readsOrder_159 : decode cX8_readsOrder 159 = .ok (.bipush 48, 2) := by decide +kernel
theorem dX8_readsOrder_161 : decode cX8_readsOrder 161 = .ok (.bipush 57, 2) := by decide +kernel
theorem dX8_readsOrder_163 : decode cX8_readsOrder 163 = .ok (.invokevirtual 181, 3) := by decide +kernel
theorem dX8_readsOrder_166 : decode cX8_readsOrder 166 = .ok (.ifCond .eq 31, 3) := by decide +kernel
theorem dX8_readsOrder_169 : decode cX8_readsOrder 169 = .ok (.aload_n 0, 1) := by decide +kernel
theorem dX8_readsOrder_170 : decode cX8_readsOrder 170 = .ok (.iconst 2, 1) := by decide +kernel
theorem dX8_readsOrder_171 : decode cX8_readsOrder 171 = .ok (.bipush 48, 2) := by decide +kernel
theorem dX8_readsOrder_173 : decode cX8_readsOrder 173 = .ok (.bipush 57, 2) := by decide +kernel
theorem dX8_readsOrder_175 : decode cX8_readsOrder 175 = .ok (.invokevirtual 181, 3) := by decide +kernel
theorem dX8_readsOrder_178 : decode cX8_readsOrder 178 = .ok (.ifCond .eq 19, 3) := by decide +kernel
theorem dX8_readsOrder_181 : decode cX8_readsOrder 181 = .ok (.aload_n 0, 1) := by decide +kernel
theorem dX8_readsOrder_182 : decode cX8_readsOrder 182 = .ok (.iconst 3, 1) := by decide +kernel
theorem dX8_readsOrder_183 : decode cX8_readsOrder 183 = .ok (.bipush 48, 2) := by decide +kernel
theorem dX8_readsOrder_185 : decode cX8_readsOrder 185 = .ok (.bipush 57, 2) := by decide +kernel
theorem dX8_readsOrder_187 : decode cX8_readsOrder 187 = .ok (.invokevirtual 181, 3) := by decide +kernel
theorem dX8_readsOrder_190 : decode cX8_readsOrder 190 = .ok (.ifCond .eq 7, 3) := by decide +kernel
theorem dX8_readsOrder_193 : decode cX8_readsOrder 193 = .ok (.iconst 1, 1) := by decide +kernel
theorem dX8_readsOrder_194 : decode cX8_readsOrder 194 = .ok (.goto 4, 3) := by decide +kernel
theorem dX8_readsOrder_197 : decode cX8_readsOrder 197 = .ok (.iconst 0, 1) := by decide +kernel
theorem dX8_readsOrder_198 : decode cX8_readsOrder 198 = .ok (.istore_n 1, 1) := by decide +kernel
theorem dX8_readsOrder_199 : decode cX8_readsOrder 199 = .ok (.goto 93, 3) := by decide +kernel
theorem dX8_readsOrder_202 : decode cX8_readsOrder 202 = .ok (.aload_n 0, 1) := by decide +kernel
theorem dX8_readsOrder_203 : decode cX8_readsOrder 203 = .ok (.bipush 116, 2) := by decide +kernel
theorem dX8_readsOrder_205 : decode cX8_readsOrder 205 = .ok (.invokevirtual 185, 3) := by decide +kernel
theorem dX8_readsOrder_208 : decode cX8_readsOrder 208 = .ok (.ifCond .eq 40, 3) := by decide +kernel
theorem dX8_readsOrder_211 : decode cX8_readsOrder 211 = .ok (.aload_n 0, 1) := by decide +kernel
theorem dX8_readsOrder_212 : decode cX8_readsOrder 212 = .ok (.iconst 1, 1) := by decide +kernel
theorem dX8_readsOrder_213 : decode cX8_readsOrder 213 = .ok (.bipush 48, 2) := by decide +kernel
theorem dX8_readsOrder_215 : decode cX8_readsOrder 215 = .ok (.bipush 57, 2) := by decide +kernel
theorem dX8_readsOrder_217 : decode cX8_readsOrder 217 = .ok (.invokevirtual 181, 3) := by decide +kernel
theorem dX8_readsOrder_220 : decode cX8_readsOrder 220 = .ok (.ifCond .eq 23, 3) := by decide +kernel
theorem dX8_readsOrder_223 : decode cX8_readsOrder 223 = .ok (.aload_n 0, 1) := by decide +kernel
theorem dX8_readsOrder_224 : decode cX8_readsOrder 224 = .ok (.bipush 61, 2) := by decide +kernel
theorem dX8_readsOrder_226 : decode cX8_readsOrder 226 = .ok (.invokevirtual 185, 3) := by decide +kernel
theorem dX8_readsOrder_229 : decode cX8_readsOrder 229 = .ok (.ifCond .eq 14, 3) := by decide +kernel
theorem dX8_readsOrder_232 : decode cX8_readsOrder 232 = .ok (.aload_n 0, 1) := by decide +kernel
theorem dX8_readsOrder_233 : decode cX8_readsOrder 233 = .ok (.invokevirtual 192, 3) := by decide +kernel
theorem dX8_readsOrder_236 : decode cX8_readsOrder 236 = .ok (.ifCond .eq 7, 3) := by decide +kernel
theorem dX8_readsOrder_239 : decode cX8_readsOrder 239 = .ok (.iconst 1, 1) := by decide +kernel
theorem dX8_readsOrder_240 : decode cX8_readsOrder 240 = .ok (.goto 4, 3) := by decide +kernel
theorem dX8_readsOrder_243 : decode cX8_readsOrder 243 = .ok (.iconst 0, 1) := by decide +kernel
theorem dX8_readsOrder_244 : decode cX8_readsOrder 244 = .ok (.istore_n 1, 1) := by decide +kernel
theorem dX8_readsOrder_245 : decode cX8_readsOrder 245 = .ok (.goto 47, 3) := by decide +kernel
theorem dX8_readsOrder_248 : decode cX8_readsOrder 248 = .ok (.aload_n 0, 1) := by decide +kernel
theorem dX8_readsOrder_249 : decode cX8_readsOrder 249 = .ok (.bipush 98, 2) := by decide +kernel
theorem dX8_readsOrder_251 : decode cX8_readsOrder 251 = .ok (.invokevirtual 185, 3) := by decide +kernel
theorem dX8_readsOrder_254 : decode cX8_readsOrder 254 = .ok (.ifCond .eq 31, 3) := by decide +kernel
theorem dX8_readsOrder_257 : decode cX8_readsOrder 257 = .ok (.aload_n 0, 1) := by decide +kernel
theorem dX8_readsOrder_258 : decode cX8_readsOrder 258 = .ok (.iconst 1, 1) := by decide +kernel
theorem dX8_readsOrder_259 : decode cX8_readsOrder 259 = .ok (.bipush 48, 2) := by decide +kernel
theorem dX8_readsOrder_261 : decode cX8_readsOrder 261 = .ok (.bipush 57, 2) := by decide +kernel
theorem dX8_readsOrder_263 : decode cX8_readsOrder 263 = .ok (.invokevirtual 181, 3) := by decide +kernel
theorem dX8_readsOrder_266 : decode cX8_readsOrder 266 = .ok (.ifCond .eq 14, 3) := by decide +kernel
theorem dX8_readsOrder_269 : decode cX8_readsOrder 269 = .ok (.aload_n 0, 1) := by decide +kernel
theorem dX8_readsOrder_270 : decode cX8_readsOrder 270 = .ok (.invokevirtual 196, 3) := by decide +kernel
theorem dX8_readsOrder_273 : decode cX8_readsOrder 273 = .ok (.ifCond .eq 7, 3) := by decide +kernel
theorem dX8_readsOrder_276 : decode cX8_readsOrder 276 = .ok (.iconst 1, 1) := by decide +kernel
theorem dX8_readsOrder_277 : decode cX8_readsOrder 277 = .ok (.goto 4, 3) := by decide +kernel
theorem dX8_readsOrder_280 : decode cX8_readsOrder 280 = .ok (.iconst 0, 1) := by decide +kernel
theorem dX8_readsOrder_281 : decode cX8_readsOrder 281 = .ok (.istore_n 1, 1) := by decide +kernel
theorem dX8_readsOrder_282 : decode cX8_readsOrder 282 = .ok (.goto 10, 3) := by decide +kernel
theorem dX8_readsOrder_285 : decode cX8_readsOrder 285 = .ok (.aload_n 0, 1) := by decide +kernel
theorem dX8_readsOrder_286 : decode cX8_readsOrder 286 = .ok (.bipush 99, 2) := by decide +kernel
theorem dX8_readsOrder_288 : decode cX8_readsOrder 288 = .ok (.invokevirtual 185, 3) := by decide +kernel
theorem dX8_readsOrder_291 : decode cX8_readsOrder 291 = .ok (.istore_n 1, 1) := by decide +kernel
theorem dX8_readsOrder_292 : decode cX8_readsOrder 292 = .ok (.aload_n 0, 1) := by decide +kernel
theorem dX8_readsOrder_293 : decode cX8_readsOrder 293 = .ok (.dup, 1) := by decide +kernel
theorem dX8_readsOrder_294 : decode cX8_readsOrder 294 = .ok (.getfield 178, 3) := by decide +kernel
theorem dX8_readsOrder_297 : decode cX8_readsOrder 297 = .ok (.iload_n 1, 1) := by decide +kernel
theorem dX8_readsOrder_298 : decode cX8_readsOrder 298 = .ok (.ifCond .eq 7, 3) := by decide +kernel
theorem dX8_readsOrder_301 : decode cX8_readsOrder 301 = .ok (.iconst 1, 1) := by decide +kernel
theorem dX8_readsOrder_302 : decode cX8_readsOrder 302 = .ok (.goto 4, 3) := by decide +kernel
theorem dX8_readsOrder_305 : decode cX8_readsOrder 305 = .ok (.iconst 0, 1) := by decide +kernel
theorem dX8_readsOrder_306 : decode cX8_readsOrder 306 = .ok (.iadd, 1) := by decide +kernel
theorem dX8_readsOrder_307 : decode cX8_readsOrder 307 = .ok (.putfield 178, 3) := by decide +kernel
theorem dX8_readsOrder_310 : decode cX8_readsOrder 310 = .ok (.iload_n 1, 1) := by decide +kernel
theorem dX8_readsOrder_311 : decode cX8_readsOrder 311 = .ok (.ireturn, 1) := by decide +kernel
theorem dX8_faultOf_0 : decode cX8_faultOf 0 = .ok (.aload_n 0, 1) := by decide +kernel
theorem dX8_faultOf_1 : decode cX8_faultOf 1 = .ok (.iconst 0, 1) := by decide +kernel
theorem dX8_faultOf_2 : decode cX8_faultOf 2 = .ok (.putfield 171, 3) := by decide +kernel
theorem dX8_faultOf_5 : decode cX8_faultOf 5 = .ok (.aload_n 0, 1) := by decide +kernel
theorem dX8_faultOf_6 : decode cX8_faultOf 6 = .ok (.iconst 0, 1) := by decide +kernel
theorem dX8_faultOf_7 : decode cX8_faultOf 7 = .ok (.putfield 178, 3) := by decide +kernel
theorem dX8_faultOf_10 : decode cX8_faultOf 10 = .ok (.aload_n 0, 1) := by decide +kernel
theorem dX8_faultOf_11 : decode cX8_faultOf 11 = .ok (.invokevirtual 199, 3) := by decide +kernel
theorem dX8_faultOf_14 : decode cX8_faultOf 14 = .ok (.istore_n 1, 1) := by decide +kernel
theorem dX8_faultOf_15 : decode cX8_faultOf 15 = .ok (.iload_n 1, 1) := by decide +kernel
theorem dX8_faultOf_16 : decode cX8_faultOf 16 = .ok (.ifCond .eq 39, 3) := by decide +kernel
theorem dX8_faultOf_19 : decode cX8_faultOf 19 = .ok (.aload_n 0, 1) := by decide +kernel
theorem dX8_faultOf_20 : decode cX8_faultOf 20 = .ok (.getfield 171, 3) := by decide +kernel
theorem dX8_faultOf_23 : decode cX8_faultOf 23 = .ok (.aload_n 0, 1) := by decide +kernel
theorem dX8_faultOf_24 : decode cX8_faultOf 24 = .ok (.getfield 154, 3) := by decide +kernel
theorem dX8_faultOf_27 : decode cX8_faultOf 27 = .ok (.if_icmp .ge 28, 3) := by decide +kernel
theorem dX8_faultOf_30 : decode cX8_faultOf 30 = .ok (.aload_n 0, 1) := by decide +kernel
theorem dX8_faultOf_31 : decode cX8_faultOf 31 = .ok (.bipush 59, 2) := by decide +kernel
theorem dX8_faultOf_33 : decode cX8_faultOf 33 = .ok (.invokevirtual 185, 3) := by decide +kernel
theorem dX8_faultOf_36 : decode cX8_faultOf 36 = .ok (.ifCond .eq 14, 3) := by decide +kernel
theorem dX8_faultOf_39 : decode cX8_faultOf 39 = .ok (.aload_n 0, 1) := by decide +kernel
theorem dX8_faultOf_40 : decode cX8_faultOf 40 = .ok (.invokevirtual 199, 3) := by decide +kernel
theorem dX8_faultOf_43 : decode cX8_faultOf 43 = .ok (.ifCond .eq 7, 3) := by decide +kernel
theorem dX8_faultOf_46 : decode cX8_faultOf 46 = .ok (.iconst 1, 1) := by decide +kernel
theorem dX8_faultOf_47 : decode cX8_faultOf 47 = .ok (.goto 4, 3) := by decide +kernel
theorem dX8_faultOf_50 : decode cX8_faultOf 50 = .ok (.iconst 0, 1) := by decide +kernel
theorem dX8_faultOf_51 : decode cX8_faultOf 51 = .ok (.istore_n 1, 1) := by decide +kernel
theorem dX8_faultOf_52 : decode cX8_faultOf 52 = .ok (.goto (-37), 3) := by decide +kernel
theorem dX8_faultOf_55 : decode cX8_faultOf 55 = .ok (.iload_n 1, 1) := by decide +kernel
theorem dX8_faultOf_56 : decode cX8_faultOf 56 = .ok (.ifCond .eq 7, 3) := by decide +kernel
theorem dX8_faultOf_59 : decode cX8_faultOf 59 = .ok (.iconst (-1), 1) := by decide +kernel
theorem dX8_faultOf_60 : decode cX8_faultOf 60 = .ok (.goto 7, 3) := by decide +kernel
theorem dX8_faultOf_63 : decode cX8_faultOf 63 = .ok (.aload_n 0, 1) := by decide +kernel
theorem dX8_faultOf_64 : decode cX8_faultOf 64 = .ok (.getfield 171, 3) := by decide +kernel
theorem dX8_faultOf_67 : decode cX8_faultOf 67 = .ok (.ireturn, 1) := by decide +kernel
theorem dX8_does_0 : decode cX8_does 0 = .ok (.iconst 5, 1) := by decide +kernel
theorem dX8_does_1 : decode cX8_does 1 = .ok (.iload_n 1, 1) := by decide +kernel
theorem dX8_does_2 : decode cX8_does 2 = .ok (.imul, 1) := by decide +kernel
theorem dX8_does_3 : decode cX8_does 3 = .ok (.istore_n 2, 1) := by decide +kernel
theorem dX8_does_4 : decode cX8_does 4 = .ok (.aload_n 0, 1) := by decide +kernel
theorem dX8_does_5 : decode cX8_does 5 = .ok (.getfield 32, 3) := by decide +kernel
theorem dX8_does_8 : decode cX8_does 8 = .ok (.iload_n 2, 1) := by decide +kernel
theorem dX8_does_9 : decode cX8_does 9 = .ok (.iaload, 1) := by decide +kernel
theorem dX8_does_10 : decode cX8_does 10 = .ok (.lookupswitch 179 #[(98, 158), (104, 50), (112, 71), (115, 108), (116, 137)], 50) := by decide +kernel
theorem dX8_does_60 : decode cX8_does 60 = .ok (.aload_n 0, 1) := by decide +kernel
theorem dX8_does_61 : decode cX8_does 61 = .ok (.aload_n 0, 1) := by decide +kernel
theorem dX8_does_62 : decode cX8_does 62 = .ok (.getfield 32, 3) := by decide +kernel
theorem dX8_does_65 : decode cX8_does 65 = .ok (.iload_n 2, 1) := by decide +kernel
theorem dX8_does_66 : decode cX8_does 66 = .ok (.iconst 1, 1) := by decide +kernel
theorem dX8_does_67 : decode cX8_does 67 = .ok (.iadd, 1) := by decide +kernel
theorem dX8_does_68 : decode cX8_does 68 = .ok (.iaload, 1) := by decide +kernel
theorem dX8_does_69 : decode cX8_does 69 = .ok (.aload_n 0, 1) := by decide +kernel
theorem dX8_does_70 : decode cX8_does 70 = .ok (.getfield 32, 3) := by decide +kernel
theorem dX8_does_73 : decode cX8_does 73 = .ok (.iload_n 2, 1) := by decide +kernel
theorem dX8_does_74 : decode cX8_does 74 = .ok (.iconst 2, 1) := by decide +kernel
theorem dX8_does_75 : decode cX8_does 75 = .ok (.iadd, 1) := by decide +kernel
theorem dX8_does_76 : decode cX8_does 76 = .ok (.iaload, 1) := by decide +kernel
theorem dX8_does_77 : decode cX8_does 77 = .ok (.invokevirtual 107, 3) := by decide +kernel
theorem dX8_does_80 : decode cX8_does 80 = .ok (.ireturn, 1) := by decide +kernel
theorem dX8_does_81 : decode cX8_does 81 = .ok (.aload_n 0, 1) := by decide +kernel
theorem dX8_does_82 : decode cX8_does 82 = .ok (.aload_n 0, 1) := by decide +kernel
theorem dX8_does_83 : decode cX8_does 83 = .ok (.getfield 32, 3) := by decide +kernel
theorem dX8_does_86 : decode cX8_does 86 = .ok (.iload_n 2, 1) := by decide +kernel
theorem dX8_does_87 : decode cX8_does 87 = .ok (.iconst 1, 1) := by decide +kernel
theorem dX8_does_88 : decode cX8_does 88 = .ok (.iadd, 1) := by decide +kernel
theorem dX8_does_89 : decode cX8_does 89 = .ok (.iaload, 1) := by decide +kernel
theorem dX8_does_90 : decode cX8_does 90 = .ok (.aload_n 0, 1) := by decide +kernel
theorem dX8_does_91 : decode cX8_does 91 = .ok (.getfield 32, 3) := by decide +kernel
theorem dX8_does_94 : decode cX8_does 94 = .ok (.iload_n 2, 1) := by decide +kernel
theorem dX8_does_95 : decode cX8_does 95 = .ok (.iconst 2, 1) := by decide +kernel
theorem dX8_does_96 : decode cX8_does 96 = .ok (.iadd, 1) := by decide +kernel
theorem dX8_does_97 : decode cX8_does 97 = .ok (.iaload, 1) := by decide +kernel
theorem dX8_does_98 : decode cX8_does 98 = .ok (.aload_n 0, 1) := by decide +kernel
theorem dX8_does_99 : decode cX8_does 99 = .ok (.getfield 32, 3) := by decide +kernel
theorem dX8_does_102 : decode cX8_does 102 = .ok (.iload_n 2, 1) := by decide +kernel
theorem dX8_does_103 : decode cX8_does 103 = .ok (.iconst 3, 1) := by decide +kernel
theorem dX8_does_104 : decode cX8_does 104 = .ok (.iadd, 1) := by decide +kernel
theorem dX8_does_105 : decode cX8_does 105 = .ok (.iaload, 1) := by decide +kernel
theorem dX8_does_106 : decode cX8_does 106 = .ok (.aload_n 0, 1) := by decide +kernel
theorem dX8_does_107 : decode cX8_does 107 = .ok (.getfield 32, 3) := by decide +kernel
theorem dX8_does_110 : decode cX8_does 110 = .ok (.iload_n 2, 1) := by decide +kernel
theorem dX8_does_111 : decode cX8_does 111 = .ok (.iconst 4, 1) := by decide +kernel
theorem dX8_does_112 : decode cX8_does 112 = .ok (.iadd, 1) := by decide +kernel
theorem dX8_does_113 : decode cX8_does 113 = .ok (.iaload, 1) := by decide +kernel
theorem dX8_does_114 : decode cX8_does 114 = .ok (.invokevirtual 113, 3) := by decide +kernel
theorem dX8_does_117 : decode cX8_does 117 = .ok (.ireturn, 1) := by decide +kernel
theorem dX8_does_118 : decode cX8_does 118 = .ok (.aload_n 0, 1) := by decide +kernel
theorem dX8_does_119 : decode cX8_does 119 = .ok (.aload_n 0, 1) := by decide +kernel
theorem dX8_does_120 : decode cX8_does 120 = .ok (.getfield 32, 3) := by decide +kernel
theorem dX8_does_123 : decode cX8_does 123 = .ok (.iload_n 2, 1) := by decide +kernel
theorem dX8_does_124 : decode cX8_does 124 = .ok (.iconst 1, 1) := by decide +kernel
theorem dX8_does_125 : decode cX8_does 125 = .ok (.iadd, 1) := by decide +kernel
theorem dX8_does_126 : decode cX8_does 126 = .ok (.iaload, 1) := by decide +kernel
theorem dX8_does_127 : decode cX8_does 127 = .ok (.aload_n 0, 1) := by decide +kernel
theorem dX8_does_128 : decode cX8_does 128 = .ok (.getfield 32, 3) := by decide +kernel
theorem dX8_does_131 : decode cX8_does 131 = .ok (.iload_n 2, 1) := by decide +kernel
theorem dX8_does_132 : decode cX8_does 132 = .ok (.iconst 2, 1) := by decide +kernel
theorem dX8_does_133 : decode cX8_does 133 = .ok (.iadd, 1) := by decide +kernel
theorem dX8_does_134 : decode cX8_does 134 = .ok (.iaload, 1) := by decide +kernel
theorem dX8_does_135 : decode cX8_does 135 = .ok (.aload_n 0, 1) := by decide +kernel
theorem dX8_does_136 : decode cX8_does 136 = .ok (.getfield 32, 3) := by decide +kernel
theorem dX8_does_139 : decode cX8_does 139 = .ok (.iload_n 2, 1) := by decide +kernel
theorem dX8_does_140 : decode cX8_does 140 = .ok (.iconst 3, 1) := by decide +kernel
theorem dX8_does_141 : decode cX8_does 141 = .ok (.iadd, 1) := by decide +kernel
theorem dX8_does_142 : decode cX8_does 142 = .ok (.iaload, 1) := by decide +kernel
theorem dX8_does_143 : decode cX8_does 143 = .ok (.invokevirtual 117, 3) := by decide +kernel
theorem dX8_does_146 : decode cX8_does 146 = .ok (.ireturn, 1) := by decide +kernel
theorem dX8_does_147 : decode cX8_does 147 = .ok (.aload_n 0, 1) := by decide +kernel
theorem dX8_does_148 : decode cX8_does 148 = .ok (.aload_n 0, 1) := by decide +kernel
theorem dX8_does_149 : decode cX8_does 149 = .ok (.getfield 32, 3) := by decide +kernel
theorem dX8_does_152 : decode cX8_does 152 = .ok (.iload_n 2, 1) := by decide +kernel
theorem dX8_does_153 : decode cX8_does 153 = .ok (.iconst 1, 1) := by decide +kernel
theorem dX8_does_154 : decode cX8_does 154 = .ok (.iadd, 1) := by decide +kernel
theorem dX8_does_155 : decode cX8_does 155 = .ok (.iaload, 1) := by decide +kernel
theorem dX8_does_156 : decode cX8_does 156 = .ok (.aload_n 0, 1) := by decide +kernel
theorem dX8_does_157 : decode cX8_does 157 = .ok (.getfield 32, 3) := by decide +kernel
theorem dX8_does_160 : decode cX8_does 160 = .ok (.iload_n 2, 1) := by decide +kernel
theorem dX8_does_161 : decode cX8_does 161 = .ok (.iconst 2, 1) := by decide +kernel
theorem dX8_does_162 : decode cX8_does 162 = .ok (.iadd, 1) := by decide +kernel
theorem dX8_does_163 : decode cX8_does 163 = .ok (.iaload, 1) := by decide +kernel
theorem dX8_does_164 : decode cX8_does 164 = .ok (.invokevirtual 104, 3) := by decide +kernel
theorem dX8_does_167 : decode cX8_does 167 = .ok (.ireturn, 1) := by decide +kernel
theorem dX8_does_168 : decode cX8_does 168 = .ok (.aload_n 0, 1) := by decide +kernel
theorem dX8_does_169 : decode cX8_does 169 = .ok (.aload_n 0, 1) := by decide +kernel
theorem dX8_does_170 : decode cX8_does 170 = .ok (.getfield 32, 3) := by decide +kernel
theorem dX8_does_173 : decode cX8_does 173 = .ok (.iload_n 2, 1) := by decide +kernel
theorem dX8_does_174 : decode cX8_does 174 = .ok (.iconst 1, 1) := by decide +kernel
theorem dX8_does_175 : decode cX8_does 175 = .ok (.iadd, 1) := by decide +kernel
theorem dX8_does_176 : decode cX8_does 176 = .ok (.iaload, 1) := by decide +kernel
theorem dX8_does_177 : decode cX8_does 177 = .ok (.aload_n 0, 1) := by decide +kernel
theorem dX8_does_178 : decode cX8_does 178 = .ok (.getfield 32, 3) := by decide +kernel
theorem dX8_does_181 : decode cX8_does 181 = .ok (.iload_n 2, 1) := by decide +kernel
theorem dX8_does_182 : decode cX8_does 182 = .ok (.iconst 2, 1) := by decide +kernel
theorem dX8_does_183 : decode cX8_does 183 = .ok (.iadd, 1) := by decide +kernel
theorem dX8_does_184 : decode cX8_does 184 = .ok (.iaload, 1) := by decide +kernel
theorem dX8_does_185 : decode cX8_does 185 = .ok (.invokevirtual 120, 3) := by decide +kernel
theorem dX8_does_188 : decode cX8_does 188 = .ok (.ireturn, 1) := by decide +kernel
theorem dX8_does_189 : decode cX8_does 189 = .ok (.aload_n 0, 1) := by decide +kernel
theorem dX8_does_190 : decode cX8_does 190 = .ok (.invokevirtual 123, 3) := by decide +kernel
theorem dX8_does_193 : decode cX8_does 193 = .ok (.ireturn, 1) := by decide +kernel
theorem dX8_put_0 : decode cX8_put 0 = .ok (.iconst 0, 1) := by decide +kernel
theorem dX8_put_1 : decode cX8_put 1 = .ok (.istore_n 3, 1) := by decide +kernel
theorem dX8_put_2 : decode cX8_put 2 = .ok (.lload_n 1, 1) := by decide +kernel
theorem dX8_put_3 : decode cX8_put 3 = .ok (.lstore 4, 2) := by decide +kernel
theorem dX8_put_5 : decode cX8_put 5 = .ok (.iload_n 3, 1) := by decide +kernel
theorem dX8_put_6 : decode cX8_put 6 = .ok (.bipush 8, 2) := by decide +kernel
theorem dX8_put_8 : decode cX8_put 8 = .ok (.if_icmp .ge 52, 3) := by decide +kernel
theorem dX8_put_11 : decode cX8_put 11 = .ok (.lload 4, 2) := by decide +kernel
theorem dX8_put_13 : decode cX8_put 13 = .ok (.lconst 0, 1) := by decide +kernel
theorem dX8_put_14 : decode cX8_put 14 = .ok (.lcmp, 1) := by decide +kernel
theorem dX8_put_15 : decode cX8_put 15 = .ok (.ifCond .eq 45, 3) := by decide +kernel
theorem dX8_put_18 : decode cX8_put 18 = .ok (.lload 4, 2) := by decide +kernel
theorem dX8_put_20 : decode cX8_put 20 = .ok (.ldc2_w 202, 3) := by decide +kernel
theorem dX8_put_23 : decode cX8_put 23 = .ok (.land, 1) := by decide +kernel
theorem dX8_put_24 : decode cX8_put 24 = .ok (.lstore 6, 2) := by decide +kernel
theorem dX8_put_26 : decode cX8_put 26 = .ok (.lload 6, 2) := by decide +kernel
theorem dX8_put_28 : decode cX8_put 28 = .ok (.ldc2_w 204, 3) := by decide +kernel
theorem dX8_put_31 : decode cX8_put 31 = .ok (.lcmp, 1) := by decide +kernel
theorem dX8_put_32 : decode cX8_put 32 = .ok (.ifCond .lt 12, 3) := by decide +kernel
theorem dX8_put_35 : decode cX8_put 35 = .ok (.lload 6, 2) := by decide +kernel
theorem dX8_put_37 : decode cX8_put 37 = .ok (.ldc2_w 206, 3) := by decide +kernel
theorem dX8_put_40 : decode cX8_put 40 = .ok (.lcmp, 1) := by decide +kernel
theorem dX8_put_41 : decode cX8_put 41 = .ok (.ifCond .le 6, 3) := by decide +kernel
theorem dX8_put_44 : decode cX8_put 44 = .ok (.bipush (-2), 2) := by decide +kernel
theorem dX8_put_46 : decode cX8_put 46 = .ok (.ireturn, 1) := by decide +kernel
theorem dX8_put_47 : decode cX8_put 47 = .ok (.lload 4, 2) := by decide +kernel
theorem dX8_put_49 : decode cX8_put 49 = .ok (.bipush 8, 2) := by decide +kernel
theorem dX8_put_51 : decode cX8_put 51 = .ok (.lushr, 1) := by decide +kernel
theorem dX8_put_52 : decode cX8_put 52 = .ok (.lstore 4, 2) := by decide +kernel
theorem dX8_put_54 : decode cX8_put 54 = .ok (.iinc 3 1, 3) := by decide +kernel
theorem dX8_put_57 : decode cX8_put 57 = .ok (.goto (-52), 3) := by decide +kernel
theorem dX8_put_60 : decode cX8_put 60 = .ok (.iload_n 3, 1) := by decide +kernel
theorem dX8_put_61 : decode cX8_put 61 = .ok (.ifCond .ne 6, 3) := by decide +kernel
theorem dX8_put_64 : decode cX8_put 64 = .ok (.bipush (-2), 2) := by decide +kernel
theorem dX8_put_66 : decode cX8_put 66 = .ok (.ireturn, 1) := by decide +kernel
theorem dX8_put_67 : decode cX8_put 67 = .ok (.aload_n 0, 1) := by decide +kernel
theorem dX8_put_68 : decode cX8_put 68 = .ok (.getfield 154, 3) := by decide +kernel
theorem dX8_put_71 : decode cX8_put 71 = .ok (.iload_n 3, 1) := by decide +kernel
theorem dX8_put_72 : decode cX8_put 72 = .ok (.iadd, 1) := by decide +kernel
theorem dX8_put_73 : decode cX8_put 73 = .ok (.bipush 80, 2) := by decide +kernel
theorem dX8_put_75 : decode cX8_put 75 = .ok (.if_icmp .le 6, 3) := by decide +kernel
theorem dX8_put_78 : decode cX8_put 78 = .ok (.bipush (-4), 2) := by decide +kernel
theorem dX8_put_80 : decode cX8_put 80 = .ok (.ireturn, 1) := by decide +kernel
theorem dX8_put_81 : decode cX8_put 81 = .ok (.iload_n 3, 1) := by decide +kernel
theorem dX8_put_82 : decode cX8_put 82 = .ok (.iconst 1, 1) := by decide +kernel
theorem dX8_put_83 : decode cX8_put 83 = .ok (.isub, 1) := by decide +kernel
theorem dX8_put_84 : decode cX8_put 84 = .ok (.istore 6, 2) := by decide +kernel
theorem dX8_put_86 : decode cX8_put 86 = .ok (.iload 6, 2) := by decide +kernel
theorem dX8_put_88 : decode cX8_put 88 = .ok (.ifCond .lt 41, 3) := by decide +kernel
theorem dX8_put_91 : decode cX8_put 91 = .ok (.aload_n 0, 1) := by decide +kernel
theorem dX8_put_92 : decode cX8_put 92 = .ok (.getfield 35, 3) := by decide +kernel
theorem dX8_put_95 : decode cX8_put 95 = .ok (.aload_n 0, 1) := by decide +kernel
theorem dX8_put_96 : decode cX8_put 96 = .ok (.getfield 154, 3) := by decide +kernel
theorem dX8_put_99 : decode cX8_put 99 = .ok (.lload_n 1, 1) := by decide +kernel
theorem dX8_put_100 : decode cX8_put 100 = .ok (.bipush 8, 2) := by decide +kernel
theorem dX8_put_102 : decode cX8_put 102 = .ok (.iload 6, 2) := by decide +kernel
theorem dX8_put_104 : decode cX8_put 104 = .ok (.imul, 1) := by decide +kernel
theorem dX8_put_105 : decode cX8_put 105 = .ok (.lushr, 1) := by decide +kernel
theorem dX8_put_106 : decode cX8_put 106 = .ok (.ldc2_w 202, 3) := by decide +kernel
theorem dX8_put_109 : decode cX8_put 109 = .ok (.land, 1) := by decide +kernel
theorem dX8_put_110 : decode cX8_put 110 = .ok (.l2i, 1) := by decide +kernel
theorem dX8_put_111 : decode cX8_put 111 = .ok (.i2c, 1) := by decide +kernel
theorem dX8_put_112 : decode cX8_put 112 = .ok (.castore, 1) := by decide +kernel
theorem dX8_put_113 : decode cX8_put 113 = .ok (.aload_n 0, 1) := by decide +kernel
theorem dX8_put_114 : decode cX8_put 114 = .ok (.dup, 1) := by decide +kernel
theorem dX8_put_115 : decode cX8_put 115 = .ok (.getfield 154, 3) := by decide +kernel
theorem dX8_put_118 : decode cX8_put 118 = .ok (.iconst 1, 1) := by decide +kernel
theorem dX8_put_119 : decode cX8_put 119 = .ok (.iadd, 1) := by decide +kernel
theorem dX8_put_120 : decode cX8_put 120 = .ok (.putfield 154, 3) := by decide +kernel
theorem dX8_put_123 : decode cX8_put 123 = .ok (.iinc 6 (-1), 3) := by decide +kernel
theorem dX8_put_126 : decode cX8_put 126 = .ok (.goto (-40), 3) := by decide +kernel
theorem dX8_put_129 : decode cX8_put 129 = .ok (.aload_n 0, 1) := by decide +kernel
theorem dX8_put_130 : decode cX8_put 130 = .ok (.getfield 154, 3) := by decide +kernel
theorem dX8_put_133 : decode cX8_put 133 = .ok (.ireturn, 1) := by decide +kernel
theorem dX8_wipe_0 : decode cX8_wipe 0 = .ok (.aload_n 0, 1) := by decide +kernel
theorem dX8_wipe_1 : decode cX8_wipe 1 = .ok (.getfield 154, 3) := by decide +kernel
theorem dX8_wipe_4 : decode cX8_wipe 4 = .ok (.istore_n 1, 1) := by decide +kernel
theorem dX8_wipe_5 : decode cX8_wipe 5 = .ok (.aload_n 0, 1) := by decide +kernel
theorem dX8_wipe_6 : decode cX8_wipe 6 = .ok (.iconst 0, 1) := by decide +kernel
theorem dX8_wipe_7 : decode cX8_wipe 7 = .ok (.putfield 154, 3) := by decide +kernel
theorem dX8_wipe_10 : decode cX8_wipe 10 = .ok (.iload_n 1, 1) := by decide +kernel
theorem dX8_wipe_11 : decode cX8_wipe 11 = .ok (.ireturn, 1) := by decide +kernel
theorem dX8_fault_0 : decode cX8_fault 0 = .ok (.aload_n 0, 1) := by decide +kernel
theorem dX8_fault_1 : decode cX8_fault 1 = .ok (.invokevirtual 208, 3) := by decide +kernel
theorem dX8_fault_4 : decode cX8_fault 4 = .ok (.istore_n 1, 1) := by decide +kernel
theorem dX8_fault_5 : decode cX8_fault 5 = .ok (.iload_n 1, 1) := by decide +kernel
theorem dX8_fault_6 : decode cX8_fault 6 = .ok (.ifCond .ge 8, 3) := by decide +kernel
theorem dX8_fault_9 : decode cX8_fault 9 = .ok (.bipush (-6), 2) := by decide +kernel
theorem dX8_fault_11 : decode cX8_fault 11 = .ok (.goto 4, 3) := by decide +kernel
theorem dX8_fault_14 : decode cX8_fault 14 = .ok (.iload_n 1, 1) := by decide +kernel
theorem dX8_fault_15 : decode cX8_fault 15 = .ok (.ireturn, 1) := by decide +kernel
theorem dX8_carryOut_0 : decode cX8_carryOut 0 = .ok (.aload_n 0, 1) := by decide +kernel
theorem dX8_carryOut_1 : decode cX8_carryOut 1 = .ok (.invokevirtual 208, 3) := by decide +kernel
theorem dX8_carryOut_4 : decode cX8_carryOut 4 = .ok (.ifCond .lt 6, 3) := by decide +kernel
theorem dX8_carryOut_7 : decode cX8_carryOut 7 = .ok (.bipush (-3), 2) := by decide +kernel
theorem dX8_carryOut_9 : decode cX8_carryOut 9 = .ok (.ireturn, 1) := by decide +kernel
theorem dX8_carryOut_10 : decode cX8_carryOut 10 = .ok (.aload_n 0, 1) := by decide +kernel
theorem dX8_carryOut_11 : decode cX8_carryOut 11 = .ok (.invokevirtual 98, 3) := by decide +kernel
theorem dX8_carryOut_14 : decode cX8_carryOut 14 = .ok (.iconst 0, 1) := by decide +kernel
theorem dX8_carryOut_15 : decode cX8_carryOut 15 = .ok (.istore_n 1, 1) := by decide +kernel
theorem dX8_carryOut_16 : decode cX8_carryOut 16 = .ok (.iconst 1, 1) := by decide +kernel
theorem dX8_carryOut_17 : decode cX8_carryOut 17 = .ok (.istore_n 2, 1) := by decide +kernel
theorem dX8_carryOut_18 : decode cX8_carryOut 18 = .ok (.iload_n 2, 1) := by decide +kernel
theorem dX8_carryOut_19 : decode cX8_carryOut 19 = .ok (.ifCond .eq 40, 3) := by decide +kernel
theorem dX8_carryOut_22 : decode cX8_carryOut 22 = .ok (.iload_n 1, 1) := by decide +kernel
theorem dX8_carryOut_23 : decode cX8_carryOut 23 = .ok (.aload_n 0, 1) := by decide +kernel
theorem dX8_carryOut_24 : decode cX8_carryOut 24 = .ok (.getfield 178, 3) := by decide +kernel
theorem dX8_carryOut_27 : decode cX8_carryOut 27 = .ok (.if_icmp .ge 32, 3) := by decide +kernel
theorem dX8_carryOut_30 : decode cX8_carryOut 30 = .ok (.aload_n 0, 1) := by decide +kernel
theorem dX8_carryOut_31 : decode cX8_carryOut 31 = .ok (.iload_n 1, 1) := by decide +kernel
theorem dX8_carryOut_32 : decode cX8_carryOut 32 = .ok (.invokevirtual 211, 3) := by decide +kernel
theorem dX8_carryOut_35 : decode cX8_carryOut 35 = .ok (.ifCond .lt 7, 3) := by decide +kernel
theorem dX8_carryOut_38 : decode cX8_carryOut 38 = .ok (.iconst 1, 1) := by decide +kernel
theorem dX8_carryOut_39 : decode cX8_carryOut 39 = .ok (.goto 4, 3) := by decide +kernel
theorem dX8_carryOut_42 : decode cX8_carryOut 42 = .ok (.iconst 0, 1) := by decide +kernel
theorem dX8_carryOut_43 : decode cX8_carryOut 43 = .ok (.istore_n 2, 1) := by decide +kernel
theorem dX8_carryOut_44 : decode cX8_carryOut 44 = .ok (.iload_n 1, 1) := by decide +kernel
theorem dX8_carryOut_45 : decode cX8_carryOut 45 = .ok (.iload_n 2, 1) := by decide +kernel
theorem dX8_carryOut_46 : decode cX8_carryOut 46 = .ok (.ifCond .eq 7, 3) := by decide +kernel
theorem dX8_carryOut_49 : decode cX8_carryOut 49 = .ok (.iconst 1, 1) := by decide +kernel
theorem dX8_carryOut_50 : decode cX8_carryOut 50 = .ok (.goto 4, 3) := by decide +kernel
theorem dX8_carryOut_53 : decode cX8_carryOut 53 = .ok (.iconst 0, 1) := by decide +kernel
theorem dX8_carryOut_54 : decode cX8_carryOut 54 = .ok (.iadd, 1) := by decide +kernel
theorem dX8_carryOut_55 : decode cX8_carryOut 55 = .ok (.istore_n 1, 1) := by decide +kernel
theorem dX8_carryOut_56 : decode cX8_carryOut 56 = .ok (.goto (-38), 3) := by decide +kernel
theorem dX8_carryOut_59 : decode cX8_carryOut 59 = .ok (.aload_n 0, 1) := by decide +kernel
theorem dX8_carryOut_60 : decode cX8_carryOut 60 = .ok (.iconst 0, 1) := by decide +kernel
theorem dX8_carryOut_61 : decode cX8_carryOut 61 = .ok (.putfield 154, 3) := by decide +kernel
theorem dX8_carryOut_64 : decode cX8_carryOut 64 = .ok (.aload_n 0, 1) := by decide +kernel
theorem dX8_carryOut_65 : decode cX8_carryOut 65 = .ok (.iload_n 1, 1) := by decide +kernel
theorem dX8_carryOut_66 : decode cX8_carryOut 66 = .ok (.invokevirtual 101, 3) := by decide +kernel
theorem dX8_carryOut_69 : decode cX8_carryOut 69 = .ok (.ireturn, 1) := by decide +kernel
theorem dX8_undo_0 : decode cX8_undo 0 = .ok (.aload_n 0, 1) := by decide +kernel
theorem dX8_undo_1 : decode cX8_undo 1 = .ok (.getfield 50, 3) := by decide +kernel
theorem dX8_undo_4 : decode cX8_undo 4 = .ok (.ifCond .ne 6, 3) := by decide +kernel
theorem dX8_undo_7 : decode cX8_undo 7 = .ok (.bipush (-5), 2) := by decide +kernel
theorem dX8_undo_9 : decode cX8_undo 9 = .ok (.ireturn, 1) := by decide +kernel
theorem dX8_undo_10 : decode cX8_undo 10 = .ok (.aload_n 0, 1) := by decide +kernel
theorem dX8_undo_11 : decode cX8_undo 11 = .ok (.dup, 1) := by decide +kernel
theorem dX8_undo_12 : decode cX8_undo 12 = .ok (.getfield 50, 3) := by decide +kernel
theorem dX8_undo_15 : decode cX8_undo 15 = .ok (.iconst 1, 1) := by decide +kernel
theorem dX8_undo_16 : decode cX8_undo 16 = .ok (.isub, 1) := by decide +kernel
theorem dX8_undo_17 : decode cX8_undo 17 = .ok (.putfield 50, 3) := by decide +kernel
theorem dX8_undo_20 : decode cX8_undo 20 = .ok (.iconst 0, 1) := by decide +kernel
theorem dX8_undo_21 : decode cX8_undo 21 = .ok (.istore_n 1, 1) := by decide +kernel
theorem dX8_undo_22 : decode cX8_undo 22 = .ok (.iload_n 1, 1) := by decide +kernel
theorem dX8_undo_23 : decode cX8_undo 23 = .ok (.sipush 383, 3) := by decide +kernel
theorem dX8_undo_26 : decode cX8_undo 26 = .ok (.if_icmp .ge 30, 3) := by decide +kernel
theorem dX8_undo_29 : decode cX8_undo 29 = .ok (.aload_n 0, 1) := by decide +kernel
theorem dX8_undo_30 : decode cX8_undo 30 = .ok (.getfield 7, 3) := by decide +kernel
theorem dX8_undo_33 : decode cX8_undo 33 = .ok (.iload_n 1, 1) := by decide +kernel
theorem dX8_undo_34 : decode cX8_undo 34 = .ok (.aload_n 0, 1) := by decide +kernel
theorem dX8_undo_35 : decode cX8_undo 35 = .ok (.getfield 19, 3) := by decide +kernel
theorem dX8_undo_38 : decode cX8_undo 38 = .ok (.sipush 383, 3) := by decide +kernel
theorem dX8_undo_41 : decode cX8_undo 41 = .ok (.aload_n 0, 1) := by decide +kernel
theorem dX8_undo_42 : decode cX8_undo 42 = .ok (.getfield 50, 3) := by decide +kernel
theorem dX8_undo_45 : decode cX8_undo 45 = .ok (.imul, 1) := by decide +kernel
theorem dX8_undo_46 : decode cX8_undo 46 = .ok (.iload_n 1, 1) := by decide +kernel
theorem dX8_undo_47 : decode cX8_undo 47 = .ok (.iadd, 1) := by decide +kernel
theorem dX8_undo_48 : decode cX8_undo 48 = .ok (.iaload, 1) := by decide +kernel
theorem dX8_undo_49 : decode cX8_undo 49 = .ok (.iastore, 1) := by decide +kernel
theorem dX8_undo_50 : decode cX8_undo 50 = .ok (.iinc 1 1, 3) := by decide +kernel
theorem dX8_undo_53 : decode cX8_undo 53 = .ok (.goto (-31), 3) := by decide +kernel
theorem dX8_undo_56 : decode cX8_undo 56 = .ok (.aload_n 0, 1) := by decide +kernel
theorem dX8_undo_57 : decode cX8_undo 57 = .ok (.getfield 50, 3) := by decide +kernel
theorem dX8_undo_60 : decode cX8_undo 60 = .ok (.ireturn, 1) := by decide +kernel
theorem dX8_save_0 : decode cX8_save 0 = .ok (.iload_n 1, 1) := by decide +kernel
theorem dX8_save_1 : decode cX8_save 1 = .ok (.iconst 0, 1) := by decide +kernel
theorem dX8_save_2 : decode cX8_save 2 = .ok (.iconst 1, 1) := by decide +kernel
theorem dX8_save_3 : decode cX8_save 3 = .ok (.invokestatic 39, 3) := by decide +kernel
theorem dX8_save_6 : decode cX8_save 6 = .ok (.ifCond .ne 6, 3) := by decide +kernel
theorem dX8_save_9 : decode cX8_save 9 = .ok (.bipush (-2), 2) := by decide +kernel
theorem dX8_save_11 : decode cX8_save 11 = .ok (.ireturn, 1) := by decide +kernel
theorem dX8_save_12 : decode cX8_save 12 = .ok (.iconst 0, 1) := by decide +kernel
theorem dX8_save_13 : decode cX8_save 13 = .ok (.istore_n 2, 1) := by decide +kernel
theorem dX8_save_14 : decode cX8_save 14 = .ok (.iload_n 2, 1) := by decide +kernel
theorem dX8_save_15 : decode cX8_save 15 = .ok (.sipush 383, 3) := by decide +kernel
theorem dX8_save_18 : decode cX8_save 18 = .ok (.if_icmp .ge 27, 3) := by decide +kernel
theorem dX8_save_21 : decode cX8_save 21 = .ok (.aload_n 0, 1) := by decide +kernel
theorem dX8_save_22 : decode cX8_save 22 = .ok (.getfield 22, 3) := by decide +kernel
theorem dX8_save_25 : decode cX8_save 25 = .ok (.sipush 383, 3) := by decide +kernel
theorem dX8_save_28 : decode cX8_save 28 = .ok (.iload_n 1, 1) := by decide +kernel
theorem dX8_save_29 : decode cX8_save 29 = .ok (.imul, 1) := by decide +kernel
theorem dX8_save_30 : decode cX8_save 30 = .ok (.iload_n 2, 1) := by decide +kernel
theorem dX8_save_31 : decode cX8_save 31 = .ok (.iadd, 1) := by decide +kernel
theorem dX8_save_32 : decode cX8_save 32 = .ok (.aload_n 0, 1) := by decide +kernel
theorem dX8_save_33 : decode cX8_save 33 = .ok (.getfield 7, 3) := by decide +kernel
theorem dX8_save_36 : decode cX8_save 36 = .ok (.iload_n 2, 1) := by decide +kernel
theorem dX8_save_37 : decode cX8_save 37 = .ok (.iaload, 1) := by decide +kernel
theorem dX8_save_38 : decode cX8_save 38 = .ok (.iastore, 1) := by decide +kernel
theorem dX8_save_39 : decode cX8_save 39 = .ok (.iinc 2 1, 3) := by decide +kernel
theorem dX8_save_42 : decode cX8_save 42 = .ok (.goto (-28), 3) := by decide +kernel
theorem dX8_save_45 : decode cX8_save 45 = .ok (.aload_n 0, 1) := by decide +kernel
theorem dX8_save_46 : decode cX8_save 46 = .ok (.getfield 25, 3) := by decide +kernel
theorem dX8_save_49 : decode cX8_save 49 = .ok (.iload_n 1, 1) := by decide +kernel
theorem dX8_save_50 : decode cX8_save 50 = .ok (.iconst 1, 1) := by decide +kernel
theorem dX8_save_51 : decode cX8_save 51 = .ok (.bastore, 1) := by decide +kernel
theorem dX8_save_52 : decode cX8_save 52 = .ok (.aload_n 0, 1) := by decide +kernel
theorem dX8_save_53 : decode cX8_save 53 = .ok (.getfield 7, 3) := by decide +kernel
theorem dX8_save_56 : decode cX8_save 56 = .ok (.iconst 3, 1) := by decide +kernel
theorem dX8_save_57 : decode cX8_save 57 = .ok (.iaload, 1) := by decide +kernel
theorem dX8_save_58 : decode cX8_save 58 = .ok (.ireturn, 1) := by decide +kernel
theorem dX8_restore_0 : decode cX8_restore 0 = .ok (.iload_n 1, 1) := by decide +kernel
theorem dX8_restore_1 : decode cX8_restore 1 = .ok (.iconst 0, 1) := by decide +kernel
theorem dX8_restore_2 : decode cX8_restore 2 = .ok (.iconst 1, 1) := by decide +kernel
theorem dX8_restore_3 : decode cX8_restore 3 = .ok (.invokestatic 39, 3) := by decide +kernel
theorem dX8_restore_6 : decode cX8_restore 6 = .ok (.ifCond .ne 6, 3) := by decide +kernel
theorem dX8_restore_9 : decode cX8_restore 9 = .ok (.bipush (-2), 2) := by decide +kernel
theorem dX8_restore_11 : decode cX8_restore 11 = .ok (.ireturn, 1) := by decide +kernel
theorem dX8_restore_12 : decode cX8_restore 12 = .ok (.aload_n 0, 1) := by decide +kernel
theorem dX8_restore_13 : decode cX8_restore 13 = .ok (.getfield 25, 3) := by decide +kernel
theorem dX8_restore_16 : decode cX8_restore 16 = .ok (.iload_n 1, 1) := by decide +kernel
theorem dX8_restore_17 : decode cX8_restore 17 = .ok (.baload, 1) := by decide +kernel
theorem dX8_restore_18 : decode cX8_restore 18 = .ok (.ifCond .ne 6, 3) := by decide +kernel
theorem dX8_restore_21 : decode cX8_restore 21 = .ok (.bipush (-5), 2) := by decide +kernel
theorem dX8_restore_23 : decode cX8_restore 23 = .ok (.ireturn, 1) := by decide +kernel
theorem dX8_restore_24 : decode cX8_restore 24 = .ok (.aload_n 0, 1) := by decide +kernel
theorem dX8_restore_25 : decode cX8_restore 25 = .ok (.invokevirtual 98, 3) := by decide +kernel
theorem dX8_restore_28 : decode cX8_restore 28 = .ok (.iconst 0, 1) := by decide +kernel
theorem dX8_restore_29 : decode cX8_restore 29 = .ok (.istore_n 2, 1) := by decide +kernel
theorem dX8_restore_30 : decode cX8_restore 30 = .ok (.iload_n 2, 1) := by decide +kernel
theorem dX8_restore_31 : decode cX8_restore 31 = .ok (.sipush 383, 3) := by decide +kernel
theorem dX8_restore_34 : decode cX8_restore 34 = .ok (.if_icmp .ge 27, 3) := by decide +kernel
theorem dX8_restore_37 : decode cX8_restore 37 = .ok (.aload_n 0, 1) := by decide +kernel
theorem dX8_restore_38 : decode cX8_restore 38 = .ok (.getfield 7, 3) := by decide +kernel
theorem dX8_restore_41 : decode cX8_restore 41 = .ok (.iload_n 2, 1) := by decide +kernel
theorem dX8_restore_42 : decode cX8_restore 42 = .ok (.aload_n 0, 1) := by decide +kernel
theorem dX8_restore_43 : decode cX8_restore 43 = .ok (.getfield 22, 3) := by decide +kernel
theorem dX8_restore_46 : decode cX8_restore 46 = .ok (.sipush 383, 3) := by decide +kernel
theorem dX8_restore_49 : decode cX8_restore 49 = .ok (.iload_n 1, 1) := by decide +kernel
theorem dX8_restore_50 : decode cX8_restore 50 = .ok (.imul, 1) := by decide +kernel
theorem dX8_restore_51 : decode cX8_restore 51 = .ok (.iload_n 2, 1) := by decide +kernel
theorem dX8_restore_52 : decode cX8_restore 52 = .ok (.iadd, 1) := by decide +kernel
theorem dX8_restore_53 : decode cX8_restore 53 = .ok (.iaload, 1) := by decide +kernel
theorem dX8_restore_54 : decode cX8_restore 54 = .ok (.iastore, 1) := by decide +kernel
theorem dX8_restore_55 : decode cX8_restore 55 = .ok (.iinc 2 1, 3) := by decide +kernel
theorem dX8_restore_58 : decode cX8_restore 58 = .ok (.goto (-28), 3) := by decide +kernel
theorem dX8_restore_61 : decode cX8_restore 61 = .ok (.aload_n 0, 1) := by decide +kernel
theorem dX8_restore_62 : decode cX8_restore 62 = .ok (.aload_n 0, 1) := by decide +kernel
theorem dX8_restore_63 : decode cX8_restore 63 = .ok (.getfield 7, 3) := by decide +kernel
theorem dX8_restore_66 : decode cX8_restore 66 = .ok (.iconst 3, 1) := by decide +kernel
theorem dX8_restore_67 : decode cX8_restore 67 = .ok (.iaload, 1) := by decide +kernel
theorem dX8_restore_68 : decode cX8_restore 68 = .ok (.invokevirtual 101, 3) := by decide +kernel
theorem dX8_restore_71 : decode cX8_restore 71 = .ok (.ireturn, 1) := by decide +kernel
end
section
theorem dL_law_0 : decode cL_law 0 = .ok (.new 7, 3) := by decide +kernel
theorem dL_law_3 : decode cL_law 3 = .ok (.dup, 1) := by decide +kernel
theorem dL_law_4 : decode cL_law 4 = .ok (.invokespecial 9, 3) := by decide +kernel
theorem dL_law_7 : decode cL_law 7 = .ok (.astore_n 1, 1) := by decide +kernel
theorem dL_law_8 : decode cL_law 8 = .ok (.new 10, 3) := by decide +kernel
theorem dL_law_11 : decode cL_law 11 = .ok (.dup, 1) := by decide +kernel
theorem dL_law_12 : decode cL_law 12 = .ok (.invokespecial 12, 3) := by decide +kernel
theorem dL_law_15 : decode cL_law 15 = .ok (.astore_n 2, 1) := by decide +kernel
theorem dL_law_16 : decode cL_law 16 = .ok (.iconst 0, 1) := by decide +kernel
theorem dL_law_17 : decode cL_law 17 = .ok (.istore_n 3, 1) := by decide +kernel
theorem dL_law_18 : decode cL_law 18 = .ok (.iload_n 3, 1) := by decide +kernel
theorem dL_law_19 : decode cL_law 19 = .ok (.aload_n 0, 1) := by decide +kernel
theorem dL_law_20 : decode cL_law 20 = .ok (.arraylength, 1) := by decide +kernel
theorem dL_law_21 : decode cL_law 21 = .ok (.iconst 5, 1) := by decide +kernel
theorem dL_law_22 : decode cL_law 22 = .ok (.isub, 1) := by decide +kernel
theorem dL_law_23 : decode cL_law 23 = .ok (.if_icmp .gt 873, 3) := by decide +kernel
theorem dL_law_26 : decode cL_law 26 = .ok (.aload_n 0, 1) := by decide +kernel
theorem dL_law_27 : decode cL_law 27 = .ok (.iload_n 3, 1) := by decide +kernel
theorem dL_law_28 : decode cL_law 28 = .ok (.iaload, 1) := by decide +kernel
theorem dL_law_29 : decode cL_law 29 = .ok (.bipush 31, 2) := by decide +kernel
theorem dL_law_31 : decode cL_law 31 = .ok (.iand, 1) := by decide +kernel
theorem dL_law_32 : decode cL_law 32 = .ok (.tableswitch 858 0 25 #[120, 153, 186, 219, 252, 305, 348, 381, 394, 407, 460, 493, 526, 559, 582, 605, 618, 661, 694, 707, 760, 773, 786, 799, 812, 835], 120) := by decide +kernel
theorem dL_law_152 : decode cL_law 152 = .ok (.aload_n 1, 1) := by decide +kernel
theorem dL_law_153 : decode cL_law 153 = .ok (.aload_n 0, 1) := by decide +kernel
theorem dL_law_154 : decode cL_law 154 = .ok (.iload_n 3, 1) := by decide +kernel
theorem dL_law_155 : decode cL_law 155 = .ok (.iconst 1, 1) := by decide +kernel
theorem dL_law_156 : decode cL_law 156 = .ok (.iadd, 1) := by decide +kernel
theorem dL_law_157 : decode cL_law 157 = .ok (.iaload, 1) := by decide +kernel
theorem dL_law_158 : decode cL_law 158 = .ok (.aload_n 0, 1) := by decide +kernel
theorem dL_law_159 : decode cL_law 159 = .ok (.iload_n 3, 1) := by decide +kernel
theorem dL_law_160 : decode cL_law 160 = .ok (.iconst 2, 1) := by decide +kernel
theorem dL_law_161 : decode cL_law 161 = .ok (.iadd, 1) := by decide +kernel
theorem dL_law_162 : decode cL_law 162 = .ok (.iaload, 1) := by decide +kernel
theorem dL_law_163 : decode cL_law 163 = .ok (.invokevirtual 13, 3) := by decide +kernel
theorem dL_law_166 : decode cL_law 166 = .ok (.aload_n 2, 1) := by decide +kernel
theorem dL_law_167 : decode cL_law 167 = .ok (.aload_n 0, 1) := by decide +kernel
theorem dL_law_168 : decode cL_law 168 = .ok (.iload_n 3, 1) := by decide +kernel
theorem dL_law_169 : decode cL_law 169 = .ok (.iconst 1, 1) := by decide +kernel
theorem dL_law_170 : decode cL_law 170 = .ok (.iadd, 1) := by decide +kernel
theorem dL_law_171 : decode cL_law 171 = .ok (.iaload, 1) := by decide +kernel
theorem dL_law_172 : decode cL_law 172 = .ok (.aload_n 0, 1) := by decide +kernel
theorem dL_law_173 : decode cL_law 173 = .ok (.iload_n 3, 1) := by decide +kernel
theorem dL_law_174 : decode cL_law 174 = .ok (.iconst 2, 1) := by decide +kernel
theorem dL_law_175 : decode cL_law 175 = .ok (.iadd, 1) := by decide +kernel
theorem dL_law_176 : decode cL_law 176 = .ok (.iaload, 1) := by decide +kernel
theorem dL_law_177 : decode cL_law 177 = .ok (.invokevirtual 17, 3) := by decide +kernel
theorem dL_law_180 : decode cL_law 180 = .ok (.if_icmp .eq 710, 3) := by decide +kernel
theorem dL_law_183 : decode cL_law 183 = .ok (.iconst 0, 1) := by decide +kernel
theorem dL_law_184 : decode cL_law 184 = .ok (.ireturn, 1) := by decide +kernel
theorem dL_law_185 : decode cL_law 185 = .ok (.aload_n 1, 1) := by decide +kernel
theorem dL_law_186 : decode cL_law 186 = .ok (.aload_n 0, 1) := by decide +kernel
theorem dL_law_187 : decode cL_law 187 = .ok (.iload_n 3, 1) := by decide +kernel
theorem dL_law_188 : decode cL_law 188 = .ok (.iconst 1, 1) := by decide +kernel
theorem dL_law_189 : decode cL_law 189 = .ok (.iadd, 1) := by decide +kernel
theorem dL_law_190 : decode cL_law 190 = .ok (.iaload, 1) := by decide +kernel
theorem dL_law_191 : decode cL_law 191 = .ok (.aload_n 0, 1) := by decide +kernel
theorem dL_law_192 : decode cL_law 192 = .ok (.iload_n 3, 1) := by decide +kernel
theorem dL_law_193 : decode cL_law 193 = .ok (.iconst 2, 1) := by decide +kernel
theorem dL_law_194 : decode cL_law 194 = .ok (.iadd, 1) := by decide +kernel
theorem dL_law_195 : decode cL_law 195 = .ok (.iaload, 1) := by decide +kernel
theorem dL_law_196 : decode cL_law 196 = .ok (.invokevirtual 18, 3) := by decide +kernel
theorem dL_law_199 : decode cL_law 199 = .ok (.aload_n 2, 1) := by decide +kernel
theorem dL_law_200 : decode cL_law 200 = .ok (.aload_n 0, 1) := by decide +kernel
theorem dL_law_201 : decode cL_law 201 = .ok (.iload_n 3, 1) := by decide +kernel
theorem dL_law_202 : decode cL_law 202 = .ok (.iconst 1, 1) := by decide +kernel
theorem dL_law_203 : decode cL_law 203 = .ok (.iadd, 1) := by decide +kernel
theorem dL_law_204 : decode cL_law 204 = .ok (.iaload, 1) := by decide +kernel
theorem dL_law_205 : decode cL_law 205 = .ok (.aload_n 0, 1) := by decide +kernel
theorem dL_law_206 : decode cL_law 206 = .ok (.iload_n 3, 1) := by decide +kernel
theorem dL_law_207 : decode cL_law 207 = .ok (.iconst 2, 1) := by decide +kernel
theorem dL_law_208 : decode cL_law 208 = .ok (.iadd, 1) := by decide +kernel
theorem dL_law_209 : decode cL_law 209 = .ok (.iaload, 1) := by decide +kernel
theorem dL_law_210 : decode cL_law 210 = .ok (.invokevirtual 21, 3) := by decide +kernel
theorem dL_law_213 : decode cL_law 213 = .ok (.if_icmp .eq 677, 3) := by decide +kernel
theorem dL_law_216 : decode cL_law 216 = .ok (.iconst 0, 1) := by decide +kernel
theorem dL_law_217 : decode cL_law 217 = .ok (.ireturn, 1) := by decide +kernel
theorem dL_law_218 : decode cL_law 218 = .ok (.aload_n 1, 1) := by decide +kernel
theorem dL_law_219 : decode cL_law 219 = .ok (.aload_n 0, 1) := by decide +kernel
theorem dL_law_220 : decode cL_law 220 = .ok (.iload_n 3, 1) := by decide +kernel
theorem dL_law_221 : decode cL_law 221 = .ok (.iconst 1, 1) := by decide +kernel
theorem dL_law_222 : decode cL_law 222 = .ok (.iadd, 1) := by decide +kernel
theorem dL_law_223 : decode cL_law 223 = .ok (.iaload, 1) := by decide +kernel
theorem dL_law_224 : decode cL_law 224 = .ok (.aload_n 0, 1) := by decide +kernel
theorem dL_law_225 : decode cL_law 225 = .ok (.iload_n 3, 1) := by decide +kernel
theorem dL_law_226 : decode cL_law 226 = .ok (.iconst 2, 1) := by decide +kernel
theorem dL_law_227 : decode cL_law 227 = .ok (.iadd, 1) := by decide +kernel
theorem dL_law_228 : decode cL_law 228 = .ok (.iaload, 1) := by decide +kernel
theorem dL_law_229 : decode cL_law 229 = .ok (.invokevirtual 22, 3) := by decide +kernel
theorem dL_law_232 : decode cL_law 232 = .ok (.aload_n 2, 1) := by decide +kernel
theorem dL_law_233 : decode cL_law 233 = .ok (.aload_n 0, 1) := by decide +kernel
theorem dL_law_234 : decode cL_law 234 = .ok (.iload_n 3, 1) := by decide +kernel
theorem dL_law_235 : decode cL_law 235 = .ok (.iconst 1, 1) := by decide +kernel
theorem dL_law_236 : decode cL_law 236 = .ok (.iadd, 1) := by decide +kernel
theorem dL_law_237 : decode cL_law 237 = .ok (.iaload, 1) := by decide +kernel
theorem dL_law_238 : decode cL_law 238 = .ok (.aload_n 0, 1) := by decide +kernel
theorem dL_law_239 : decode cL_law 239 = .ok (.iload_n 3, 1) := by decide +kernel
theorem dL_law_240 : decode cL_law 240 = .ok (.iconst 2, 1) := by decide +kernel
theorem dL_law_241 : decode cL_law 241 = .ok (.iadd, 1) := by decide +kernel
theorem dL_law_242 : decode cL_law 242 = .ok (.iaload, 1) := by decide +kernel
theorem dL_law_243 : decode cL_law 243 = .ok (.invokevirtual 25, 3) := by decide +kernel
theorem dL_law_246 : decode cL_law 246 = .ok (.if_icmp .eq 644, 3) := by decide +kernel
theorem dL_law_249 : decode cL_law 249 = .ok (.iconst 0, 1) := by decide +kernel
theorem dL_law_250 : decode cL_law 250 = .ok (.ireturn, 1) := by decide +kernel
theorem dL_law_251 : decode cL_law 251 = .ok (.aload_n 1, 1) := by decide +kernel
theorem dL_law_252 : decode cL_law 252 = .ok (.aload_n 0, 1) := by decide +kernel
theorem dL_law_253 : decode cL_law 253 = .ok (.iload_n 3, 1) := by decide +kernel
theorem dL_law_254 : decode cL_law 254 = .ok (.iconst 1, 1) := by decide +kernel
theorem dL_law_255 : decode cL_law 255 = .ok (.iadd, 1) := by decide +kernel
theorem dL_law_256 : decode cL_law 256 = .ok (.iaload, 1) := by decide +kernel
theorem dL_law_257 : decode cL_law 257 = .ok (.aload_n 0, 1) := by decide +kernel
theorem dL_law_258 : decode cL_law 258 = .ok (.iload_n 3, 1) := by decide +kernel
theorem dL_law_259 : decode cL_law 259 = .ok (.iconst 2, 1) := by decide +kernel
theorem dL_law_260 : decode cL_law 260 = .ok (.iadd, 1) := by decide +kernel
theorem dL_law_261 : decode cL_law 261 = .ok (.iaload, 1) := by decide +kernel
theorem dL_law_262 : decode cL_law 262 = .ok (.invokevirtual 26, 3) := by decide +kernel
theorem dL_law_265 : decode cL_law 265 = .ok (.aload_n 2, 1) := by decide +kernel
theorem dL_law_266 : decode cL_law 266 = .ok (.aload_n 0, 1) := by decide +kernel
theorem dL_law_267 : decode cL_law 267 = .ok (.iload_n 3, 1) := by decide +kernel
theorem dL_law_268 : decode cL_law 268 = .ok (.iconst 1, 1) := by decide +kernel
theorem dL_law_269 : decode cL_law 269 = .ok (.iadd, 1) := by decide +kernel
theorem dL_law_270 : decode cL_law 270 = .ok (.iaload, 1) := by decide +kernel
theorem dL_law_271 : decode cL_law 271 = .ok (.aload_n 0, 1) := by decide +kernel
theorem dL_law_272 : decode cL_law 272 = .ok (.iload_n 3, 1) := by decide +kernel
theorem dL_law_273 : decode cL_law 273 = .ok (.iconst 2, 1) := by decide +kernel
theorem dL_law_274 : decode cL_law 274 = .ok (.iadd, 1) := by decide +kernel
theorem dL_law_275 : decode cL_law 275 = .ok (.iaload, 1) := by decide +kernel
theorem dL_law_276 : decode cL_law 276 = .ok (.invokevirtual 29, 3) := by decide +kernel
theorem dL_law_279 : decode cL_law 279 = .ok (.if_icmp .eq 611, 3) := by decide +kernel
theorem dL_law_282 : decode cL_law 282 = .ok (.iconst 0, 1) := by decide +kernel
theorem dL_law_283 : decode cL_law 283 = .ok (.ireturn, 1) := by decide +kernel
theorem dL_law_284 : decode cL_law 284 = .ok (.aload_n 1, 1) := by decide +kernel
theorem dL_law_285 : decode cL_law 285 = .ok (.aload_n 0, 1) := by decide +kernel
theorem dL_law_286 : decode cL_law 286 = .ok (.iload_n 3, 1) := by decide +kernel
theorem dL_law_287 : decode cL_law 287 = .ok (.iconst 1, 1) := by decide +kernel
theorem dL_law_288 : decode cL_law 288 = .ok (.iadd, 1) := by decide +kernel
theorem dL_law_289 : decode cL_law 289 = .ok (.iaload, 1) := by decide +kernel
theorem dL_law_290 : decode cL_law 290 = .ok (.aload_n 0, 1) := by decide +kernel
theorem dL_law_291 : decode cL_law 291 = .ok (.iload_n 3, 1) := by decide +kernel
theorem dL_law_292 : decode cL_law 292 = .ok (.iconst 2, 1) := by decide +kernel
theorem dL_law_293 : decode cL_law 293 = .ok (.iadd, 1) := by decide +kernel
theorem dL_law_294 : decode cL_law 294 = .ok (.iaload, 1) := by decide +kernel
theorem dL_law_295 : decode cL_law 295 = .ok (.aload_n 0, 1) := by decide +kernel
theorem dL_law_296 : decode cL_law 296 = .ok (.iload_n 3, 1) := by decide +kernel
theorem dL_law_297 : decode cL_law 297 = .ok (.iconst 3, 1) := by decide +kernel
theorem dL_law_298 : decode cL_law 298 = .ok (.iadd, 1) := by decide +kernel
theorem dL_law_299 : decode cL_law 299 = .ok (.iaload, 1) := by decide +kernel
theorem dL_law_300 : decode cL_law 300 = .ok (.aload_n 0, 1) := by decide +kernel
theorem dL_law_301 : decode cL_law 301 = .ok (.iload_n 3, 1) := by decide +kernel
theorem dL_law_302 : decode cL_law 302 = .ok (.iconst 4, 1) := by decide +kernel
theorem dL_law_303 : decode cL_law 303 = .ok (.iadd, 1) := by decide +kernel
theorem dL_law_304 : decode cL_law 304 = .ok (.iaload, 1) := by decide +kernel
theorem dL_law_305 : decode cL_law 305 = .ok (.invokevirtual 30, 3) := by decide +kernel
theorem dL_law_308 : decode cL_law 308 = .ok (.aload_n 2, 1) := by decide +kernel
theorem dL_law_309 : decode cL_law 309 = .ok (.aload_n 0, 1) := by decide +kernel
theorem dL_law_310 : decode cL_law 310 = .ok (.iload_n 3, 1) := by decide +kernel
theorem dL_law_311 : decode cL_law 311 = .ok (.iconst 1, 1) := by decide +kernel
theorem dL_law_312 : decode cL_law 312 = .ok (.iadd, 1) := by decide +kernel
theorem dL_law_313 : decode cL_law 313 = .ok (.iaload, 1) := by decide +kernel
theorem dL_law_314 : decode cL_law 314 = .ok (.aload_n 0, 1) := by decide +kernel
theorem dL_law_315 : decode cL_law 315 = .ok (.iload_n 3, 1) := by decide +kernel
theorem dL_law_316 : decode cL_law 316 = .ok (.iconst 2, 1) := by decide +kernel
theorem dL_law_317 : decode cL_law 317 = .ok (.iadd, 1) := by decide +kernel
theorem dL_law_318 : decode cL_law 318 = .ok (.iaload, 1) := by decide +kernel
theorem dL_law_319 : decode cL_law 319 = .ok (.aload_n 0, 1) := by decide +kernel
theorem dL_law_320 : decode cL_law 320 = .ok (.iload_n 3, 1) := by decide +kernel
theorem dL_law_321 : decode cL_law 321 = .ok (.iconst 3, 1) := by decide +kernel
theorem dL_law_322 : decode cL_law 322 = .ok (.iadd, 1) := by decide +kernel
theorem dL_law_323 : decode cL_law 323 = .ok (.iaload, 1) := by decide +kernel
theorem dL_law_324 : decode cL_law 324 = .ok (.aload_n 0, 1) := by decide +kernel
theorem dL_law_325 : decode cL_law 325 = .ok (.iload_n 3, 1) := by decide +kernel
theorem dL_law_326 : decode cL_law 326 = .ok (.iconst 4, 1) := by decide +kernel
theorem dL_law_327 : decode cL_law 327 = .ok (.iadd, 1) := by decide +kernel
theorem dL_law_328 : decode cL_law 328 = .ok (.iaload, 1) := by decide +kernel
theorem dL_law_329 : decode cL_law 329 = .ok (.invokevirtual 34, 3) := by decide +kernel
theorem dL_law_332 : decode cL_law 332 = .ok (.if_icmp .eq 558, 3) := by decide +kernel
theorem dL_law_335 : decode cL_law 335 = .ok (.iconst 0, 1) := by decide +kernel
theorem dL_law_336 : decode cL_law 336 = .ok (.ireturn, 1) := by decide +kernel
theorem dL_law_337 : decode cL_law 337 = .ok (.aload_n 1, 1) := by decide +kernel
theorem dL_law_338 : decode cL_law 338 = .ok (.aload_n 0, 1) := by decide +kernel
theorem dL_law_339 : decode cL_law 339 = .ok (.iload_n 3, 1) := by decide +kernel
theorem dL_law_340 : decode cL_law 340 = .ok (.iconst 1, 1) := by decide +kernel
theorem dL_law_341 : decode cL_law 341 = .ok (.iadd, 1) := by decide +kernel
theorem dL_law_342 : decode cL_law 342 = .ok (.iaload, 1) := by decide +kernel
theorem dL_law_343 : decode cL_law 343 = .ok (.aload_n 0, 1) := by decide +kernel
theorem dL_law_344 : decode cL_law 344 = .ok (.iload_n 3, 1) := by decide +kernel
theorem dL_law_345 : decode cL_law 345 = .ok (.iconst 2, 1) := by decide +kernel
theorem dL_law_346 : decode cL_law 346 = .ok (.iadd, 1) := by decide +kernel
theorem dL_law_347 : decode cL_law 347 = .ok (.iaload, 1) := by decide +kernel
theorem dL_law_348 : decode cL_law 348 = .ok (.aload_n 0, 1) := by decide +kernel
theorem dL_law_349 : decode cL_law 349 = .ok (.iload_n 3, 1) := by decide +kernel
theorem dL_law_350 : decode cL_law 350 = .ok (.iconst 3, 1) := by decide +kernel
theorem dL_law_351 : decode cL_law 351 = .ok (.iadd, 1) := by decide +kernel
theorem dL_law_352 : decode cL_law 352 = .ok (.iaload, 1) := by decide +kernel
theorem dL_law_353 : decode cL_law 353 = .ok (.invokevirtual 35, 3) := by decide +kernel
theorem dL_law_356 : decode cL_law 356 = .ok (.aload_n 2, 1) := by decide +kernel
theorem dL_law_357 : decode cL_law 357 = .ok (.aload_n 0, 1) := by decide +kernel
theorem dL_law_358 : decode cL_law 358 = .ok (.iload_n 3, 1) := by decide +kernel
theorem dL_law_359 : decode cL_law 359 = .ok (.iconst 1, 1) := by decide +kernel
theorem dL_law_360 : decode cL_law 360 = .ok (.iadd, 1) := by decide +kernel
theorem dL_law_361 : decode cL_law 361 = .ok (.iaload, 1) := by decide +kernel
theorem dL_law_362 : decode cL_law 362 = .ok (.aload_n 0, 1) := by decide +kernel
theorem dL_law_363 : decode cL_law 363 = .ok (.iload_n 3, 1) := by decide +kernel
theorem dL_law_364 : decode cL_law 364 = .ok (.iconst 2, 1) := by decide +kernel
theorem dL_law_365 : decode cL_law 365 = .ok (.iadd, 1) := by decide +kernel
theorem dL_law_366 : decode cL_law 366 = .ok (.iaload, 1) := by decide +kernel
theorem dL_law_367 : decode cL_law 367 = .ok (.aload_n 0, 1) := by decide +kernel
theorem dL_law_368 : decode cL_law 368 = .ok (.iload_n 3, 1) := by decide +kernel
theorem dL_law_369 : decode cL_law 369 = .ok (.iconst 3, 1) := by decide +kernel
theorem dL_law_370 : decode cL_law 370 = .ok (.iadd, 1) := by decide +kernel
theorem dL_law_371 : decode cL_law 371 = .ok (.iaload, 1) := by decide +kernel
theorem dL_law_372 : decode cL_law 372 = .ok (.invokevirtual 39, 3) := by decide +kernel
theorem dL_law_375 : decode cL_law 375 = .ok (.if_icmp .eq 515, 3) := by decide +kernel
theorem dL_law_378 : decode cL_law 378 = .ok (.iconst 0, 1) := by decide +kernel
theorem dL_law_379 : decode cL_law 379 = .ok (.ireturn, 1) := by decide +kernel
theorem dL_law_380 : decode cL_law 380 = .ok (.aload_n 1, 1) := by decide +kernel
theorem dL_law_381 : decode cL_law 381 = .ok (.aload_n 0, 1) := by decide +kernel
theorem dL_law_382 : decode cL_law 382 = .ok (.iload_n 3, 1) := by decide +kernel
theorem dL_law_383 : decode cL_law 383 = .ok (.iconst 1, 1) := by decide +kernel
theorem dL_law_384 : decode cL_law 384 = .ok (.iadd, 1) := by decide +kernel
theorem dL_law_385 : decode cL_law 385 = .ok (.iaload, 1) := by decide +kernel
theorem dL_law_386 : decode cL_law 386 = .ok (.aload_n 0, 1) := by decide +kernel
theorem dL_law_387 : decode cL_law 387 = .ok (.iload_n 3, 1) := by decide +kernel
theorem dL_law_388 : decode cL_law 388 = .ok (.iconst 2, 1) := by decide +kernel
theorem dL_law_389 : decode cL_law 389 = .ok (.iadd, 1) := by decide +kernel
theorem dL_law_390 : decode cL_law 390 = .ok (.iaload, 1) := by decide +kernel
theorem dL_law_391 : decode cL_law 391 = .ok (.invokevirtual 40, 3) := by decide +kernel
theorem dL_law_394 : decode cL_law 394 = .ok (.aload_n 2, 1) := by decide +kernel
theorem dL_law_395 : decode cL_law 395 = .ok (.aload_n 0, 1) := by decide +kernel
theorem dL_law_396 : decode cL_law 396 = .ok (.iload_n 3, 1) := by decide +kernel
theorem dL_law_397 : decode cL_law 397 = .ok (.iconst 1, 1) := by decide +kernel
theorem dL_law_398 : decode cL_law 398 = .ok (.iadd, 1) := by decide +kernel
theorem dL_law_399 : decode cL_law 399 = .ok (.iaload, 1) := by decide +kernel
theorem dL_law_400 : decode cL_law 400 = .ok (.aload_n 0, 1) := by decide +kernel
theorem dL_law_401 : decode cL_law 401 = .ok (.iload_n 3, 1) := by decide +kernel
theorem dL_law_402 : decode cL_law 402 = .ok (.iconst 2, 1) := by decide +kernel
theorem dL_law_403 : decode cL_law 403 = .ok (.iadd, 1) := by decide +kernel
theorem dL_law_404 : decode cL_law 404 = .ok (.iaload, 1) := by decide +kernel
theorem dL_law_405 : decode cL_law 405 = .ok (.invokevirtual 43, 3) := by decide +kernel
theorem dL_law_408 : decode cL_law 408 = .ok (.if_icmp .eq 482, 3) := by decide +kernel
theorem dL_law_411 : decode cL_law 411 = .ok (.iconst 0, 1) := by decide +kernel
theorem dL_law_412 : decode cL_law 412 = .ok (.ireturn, 1) := by decide +kernel
theorem dL_law_413 : decode cL_law 413 = .ok (.aload_n 1, 1) := by decide +kernel
theorem dL_law_414 : decode cL_law 414 = .ok (.invokevirtual 44, 3) := by decide +kernel
theorem dL_law_417 : decode cL_law 417 = .ok (.aload_n 2, 1) := by decide +kernel
theorem dL_law_418 : decode cL_law 418 = .ok (.invokevirtual 48, 3) := by decide +kernel
theorem dL_law_421 : decode cL_law 421 = .ok (.if_icmp .eq 469, 3) := by decide +kernel
theorem dL_law_424 : decode cL_law 424 = .ok (.iconst 0, 1) := by decide +kernel
theorem dL_law_425 : decode cL_law 425 = .ok (.ireturn, 1) := by decide +kernel
theorem dL_law_426 : decode cL_law 426 = .ok (.aload_n 1, 1) := by decide +kernel
theorem dL_law_427 : decode cL_law 427 = .ok (.invokevirtual 49, 3) := by decide +kernel
theorem dL_law_430 : decode cL_law 430 = .ok (.aload_n 2, 1) := by decide +kernel
theorem dL_law_431 : decode cL_law 431 = .ok (.invokevirtual 52, 3) := by decide +kernel
theorem dL_law_434 : decode cL_law 434 = .ok (.if_icmp .eq 456, 3) := by decide +kernel
theorem dL_law_437 : decode cL_law 437 = .ok (.iconst 0, 1) := by decide +kernel
theorem dL_law_438 : decode cL_law 438 = .ok (.ireturn, 1) := by decide +kernel
theorem dL_law_439 : decode cL_law 439 = .ok (.aload_n 1, 1) := by decide +kernel
theorem dL_law_440 : decode cL_law 440 = .ok (.aload_n 0, 1) := by decide +kernel
theorem dL_law_441 : decode cL_law 441 = .ok (.iload_n 3, 1) := by decide +kernel
theorem dL_law_442 : decode cL_law 442 = .ok (.iconst 1, 1) := by decide +kernel
theorem dL_law_443 : decode cL_law 443 = .ok (.iadd, 1) := by decide +kernel
theorem dL_law_444 : decode cL_law 444 = .ok (.iaload, 1) := by decide +kernel
theorem dL_law_445 : decode cL_law 445 = .ok (.aload_n 0, 1) := by decide +kernel
theorem dL_law_446 : decode cL_law 446 = .ok (.iload_n 3, 1) := by decide +kernel
theorem dL_law_447 : decode cL_law 447 = .ok (.iconst 2, 1) := by decide +kernel
theorem dL_law_448 : decode cL_law 448 = .ok (.iadd, 1) := by decide +kernel
theorem dL_law_449 : decode cL_law 449 = .ok (.iaload, 1) := by decide +kernel
theorem dL_law_450 : decode cL_law 450 = .ok (.aload_n 0, 1) := by decide +kernel
theorem dL_law_451 : decode cL_law 451 = .ok (.iload_n 3, 1) := by decide +kernel
theorem dL_law_452 : decode cL_law 452 = .ok (.iconst 3, 1) := by decide +kernel
theorem dL_law_453 : decode cL_law 453 = .ok (.iadd, 1) := by decide +kernel
theorem dL_law_454 : decode cL_law 454 = .ok (.iaload, 1) := by decide +kernel
theorem dL_law_455 : decode cL_law 455 = .ok (.aload_n 0, 1) := by decide +kernel
theorem dL_law_456 : decode cL_law 456 = .ok (.iload_n 3, 1) := by decide +kernel
theorem dL_law_457 : decode cL_law 457 = .ok (.iconst 4, 1) := by decide +kernel
theorem dL_law_458 : decode cL_law 458 = .ok (.iadd, 1) := by decide +kernel
theorem dL_law_459 : decode cL_law 459 = .ok (.iaload, 1) := by decide +kernel
theorem dL_law_460 : decode cL_law 460 = .ok (.invokevirtual 53, 3) := by decide +kernel
theorem dL_law_463 : decode cL_law 463 = .ok (.aload_n 2, 1) := by decide +kernel
theorem dL_law_464 : decode cL_law 464 = .ok (.aload_n 0, 1) := by decide +kernel
theorem dL_law_465 : decode cL_law 465 = .ok (.iload_n 3, 1) := by decide +kernel
theorem dL_law_466 : decode cL_law 466 = .ok (.iconst 1, 1) := by decide +kernel
theorem dL_law_467 : decode cL_law 467 = .ok (.iadd, 1) := by decide +kernel
theorem dL_law_468 : decode cL_law 468 = .ok (.iaload, 1) := by decide +kernel
theorem dL_law_469 : decode cL_law 469 = .ok (.aload_n 0, 1) := by decide +kernel
theorem dL_law_470 : decode cL_law 470 = .ok (.iload_n 3, 1) := by decide +kernel
theorem dL_law_471 : decode cL_law 471 = .ok (.iconst 2, 1) := by decide +kernel
theorem dL_law_472 : decode cL_law 472 = .ok (.iadd, 1) := by decide +kernel
theorem dL_law_473 : decode cL_law 473 = .ok (.iaload, 1) := by decide +kernel
theorem dL_law_474 : decode cL_law 474 = .ok (.aload_n 0, 1) := by decide +kernel
theorem dL_law_475 : decode cL_law 475 = .ok (.iload_n 3, 1) := by decide +kernel
theorem dL_law_476 : decode cL_law 476 = .ok (.iconst 3, 1) := by decide +kernel
theorem dL_law_477 : decode cL_law 477 = .ok (.iadd, 1) := by decide +kernel
theorem dL_law_478 : decode cL_law 478 = .ok (.iaload, 1) := by decide +kernel
theorem dL_law_479 : decode cL_law 479 = .ok (.aload_n 0, 1) := by decide +kernel
theorem dL_law_480 : decode cL_law 480 = .ok (.iload_n 3, 1) := by decide +kernel
theorem dL_law_481 : decode cL_law 481 = .ok (.iconst 4, 1) := by decide +kernel
theorem dL_law_482 : decode cL_law 482 = .ok (.iadd, 1) := by decide +kernel
theorem dL_law_483 : decode cL_law 483 = .ok (.iaload, 1) := by decide +kernel
theorem dL_law_484 : decode cL_law 484 = .ok (.invokevirtual 56, 3) := by decide +kernel
theorem dL_law_487 : decode cL_law 487 = .ok (.if_icmp .eq 403, 3) := by decide +kernel
theorem dL_law_490 : decode cL_law 490 = .ok (.iconst 0, 1) := by decide +kernel
theorem dL_law_491 : decode cL_law 491 = .ok (.ireturn, 1) := by decide +kernel
theorem dL_law_492 : decode cL_law 492 = .ok (.aload_n 1, 1) := by decide +kernel
theorem dL_law_493 : decode cL_law 493 = .ok (.aload_n 0, 1) := by decide +kernel
theorem dL_law_494 : decode cL_law 494 = .ok (.iload_n 3, 1) := by decide +kernel
theorem dL_law_495 : decode cL_law 495 = .ok (.iconst 1, 1) := by decide +kernel
theorem dL_law_496 : decode cL_law 496 = .ok (.iadd, 1) := by decide +kernel
theorem dL_law_497 : decode cL_law 497 = .ok (.iaload, 1) := by decide +kernel
theorem dL_law_498 : decode cL_law 498 = .ok (.aload_n 0, 1) := by decide +kernel
theorem dL_law_499 : decode cL_law 499 = .ok (.iload_n 3, 1) := by decide +kernel
theorem dL_law_500 : decode cL_law 500 = .ok (.iconst 2, 1) := by decide +kernel
theorem dL_law_501 : decode cL_law 501 = .ok (.iadd, 1) := by decide +kernel
theorem dL_law_502 : decode cL_law 502 = .ok (.iaload, 1) := by decide +kernel
theorem dL_law_503 : decode cL_law 503 = .ok (.invokevirtual 57, 3) := by decide +kernel
theorem dL_law_506 : decode cL_law 506 = .ok (.aload_n 2, 1) := by decide +kernel
theorem dL_law_507 : decode cL_law 507 = .ok (.aload_n 0, 1) := by decide +kernel
theorem dL_law_508 : decode cL_law 508 = .ok (.iload_n 3, 1) := by decide +kernel
theorem dL_law_509 : decode cL_law 509 = .ok (.iconst 1, 1) := by decide +kernel
theorem dL_law_510 : decode cL_law 510 = .ok (.iadd, 1) := by decide +kernel
theorem dL_law_511 : decode cL_law 511 = .ok (.iaload, 1) := by decide +kernel
theorem dL_law_512 : decode cL_law 512 = .ok (.aload_n 0, 1) := by decide +kernel
theorem dL_law_513 : decode cL_law 513 = .ok (.iload_n 3, 1) := by decide +kernel
theorem dL_law_514 : decode cL_law 514 = .ok (.iconst 2, 1) := by decide +kernel
theorem dL_law_515 : decode cL_law 515 = .ok (.iadd, 1) := by decide +kernel
theorem dL_law_516 : decode cL_law 516 = .ok (.iaload, 1) := by decide +kernel
theorem dL_law_517 : decode cL_law 517 = .ok (.invokevirtual 60, 3) := by decide +kernel
theorem dL_law_520 : decode cL_law 520 = .ok (.if_icmp .eq 370, 3) := by decide +kernel
theorem dL_law_523 : decode cL_law 523 = .ok (.iconst 0, 1) := by decide +kernel
theorem dL_law_524 : decode cL_law 524 = .ok (.ireturn, 1) := by decide +kernel
theorem dL_law_525 : decode cL_law 525 = .ok (.aload_n 1, 1) := by decide +kernel
theorem dL_law_526 : decode cL_law 526 = .ok (.aload_n 0, 1) := by decide +kernel
theorem dL_law_527 : decode cL_law 527 = .ok (.iload_n 3, 1) := by decide +kernel
theorem dL_law_528 : decode cL_law 528 = .ok (.iconst 1, 1) := by decide +kernel
theorem dL_law_529 : decode cL_law 529 = .ok (.iadd, 1) := by decide +kernel
theorem dL_law_530 : decode cL_law 530 = .ok (.iaload, 1) := by decide +kernel
theorem dL_law_531 : decode cL_law 531 = .ok (.aload_n 0, 1) := by decide +kernel
theorem dL_law_532 : decode cL_law 532 = .ok (.iload_n 3, 1) := by decide +kernel
theorem dL_law_533 : decode cL_law 533 = .ok (.iconst 2, 1) := by decide +kernel
theorem dL_law_534 : decode cL_law 534 = .ok (.iadd, 1) := by decide +kernel
theorem dL_law_535 : decode cL_law 535 = .ok (.iaload, 1) := by decide +kernel
theorem dL_law_536 : decode cL_law 536 = .ok (.invokevirtual 61, 3) := by decide +kernel
theorem dL_law_539 : decode cL_law 539 = .ok (.aload_n 2, 1) := by decide +kernel
theorem dL_law_540 : decode cL_law 540 = .ok (.aload_n 0, 1) := by decide +kernel
theorem dL_law_541 : decode cL_law 541 = .ok (.iload_n 3, 1) := by decide +kernel
theorem dL_law_542 : decode cL_law 542 = .ok (.iconst 1, 1) := by decide +kernel
theorem dL_law_543 : decode cL_law 543 = .ok (.iadd, 1) := by decide +kernel
theorem dL_law_544 : decode cL_law 544 = .ok (.iaload, 1) := by decide +kernel
theorem dL_law_545 : decode cL_law 545 = .ok (.aload_n 0, 1) := by decide +kernel
theorem dL_law_546 : decode cL_law 546 = .ok (.iload_n 3, 1) := by decide +kernel
theorem dL_law_547 : decode cL_law 547 = .ok (.iconst 2, 1) := by decide +kernel
theorem dL_law_548 : decode cL_law 548 = .ok (.iadd, 1) := by decide +kernel
theorem dL_law_549 : decode cL_law 549 = .ok (.iaload, 1) := by decide +kernel
theorem dL_law_550 : decode cL_law 550 = .ok (.invokevirtual 64, 3) := by decide +kernel
theorem dL_law_553 : decode cL_law 553 = .ok (.if_icmp .eq 337, 3) := by decide +kernel
theorem dL_law_556 : decode cL_law 556 = .ok (.iconst 0, 1) := by decide +kernel
theorem dL_law_557 : decode cL_law 557 = .ok (.ireturn, 1) := by decide +kernel
theorem dL_law_558 : decode cL_law 558 = .ok (.aload_n 1, 1) := by decide +kernel
theorem dL_law_559 : decode cL_law 559 = .ok (.aload_n 0, 1) := by decide +kernel
theorem dL_law_560 : decode cL_law 560 = .ok (.iload_n 3, 1) := by decide +kernel
theorem dL_law_561 : decode cL_law 561 = .ok (.iconst 1, 1) := by decide +kernel
theorem dL_law_562 : decode cL_law 562 = .ok (.iadd, 1) := by decide +kernel
theorem dL_law_563 : decode cL_law 563 = .ok (.iaload, 1) := by decide +kernel
theorem dL_law_564 : decode cL_law 564 = .ok (.aload_n 0, 1) := by decide +kernel
theorem dL_law_565 : decode cL_law 565 = .ok (.iload_n 3, 1) := by decide +kernel
theorem dL_law_566 : decode cL_law 566 = .ok (.iconst 2, 1) := by decide +kernel
theorem dL_law_567 : decode cL_law 567 = .ok (.iadd, 1) := by decide +kernel
theorem dL_law_568 : decode cL_law 568 = .ok (.iaload, 1) := by decide +kernel
theorem dL_law_569 : decode cL_law 569 = .ok (.invokevirtual 65, 3) := by decide +kernel
theorem dL_law_572 : decode cL_law 572 = .ok (.aload_n 2, 1) := by decide +kernel
theorem dL_law_573 : decode cL_law 573 = .ok (.aload_n 0, 1) := by decide +kernel
theorem dL_law_574 : decode cL_law 574 = .ok (.iload_n 3, 1) := by decide +kernel
theorem dL_law_575 : decode cL_law 575 = .ok (.iconst 1, 1) := by decide +kernel
theorem dL_law_576 : decode cL_law 576 = .ok (.iadd, 1) := by decide +kernel
theorem dL_law_577 : decode cL_law 577 = .ok (.iaload, 1) := by decide +kernel
theorem dL_law_578 : decode cL_law 578 = .ok (.aload_n 0, 1) := by decide +kernel
theorem dL_law_579 : decode cL_law 579 = .ok (.iload_n 3, 1) := by decide +kernel
theorem dL_law_580 : decode cL_law 580 = .ok (.iconst 2, 1) := by decide +kernel
theorem dL_law_581 : decode cL_law 581 = .ok (.iadd, 1) := by decide +kernel
theorem dL_law_582 : decode cL_law 582 = .ok (.iaload, 1) := by decide +kernel
theorem dL_law_583 : decode cL_law 583 = .ok (.invokevirtual 68, 3) := by decide +kernel
theorem dL_law_586 : decode cL_law 586 = .ok (.if_icmp .eq 304, 3) := by decide +kernel
theorem dL_law_589 : decode cL_law 589 = .ok (.iconst 0, 1) := by decide +kernel
theorem dL_law_590 : decode cL_law 590 = .ok (.ireturn, 1) := by decide +kernel
theorem dL_law_591 : decode cL_law 591 = .ok (.aload_n 1, 1) := by decide +kernel
theorem dL_law_592 : decode cL_law 592 = .ok (.aload_n 0, 1) := by decide +kernel
theorem dL_law_593 : decode cL_law 593 = .ok (.iload_n 3, 1) := by decide +kernel
theorem dL_law_594 : decode cL_law 594 = .ok (.iconst 1, 1) := by decide +kernel
theorem dL_law_595 : decode cL_law 595 = .ok (.iadd, 1) := by decide +kernel
theorem dL_law_596 : decode cL_law 596 = .ok (.iaload, 1) := by decide +kernel
theorem dL_law_597 : decode cL_law 597 = .ok (.invokevirtual 69, 3) := by decide +kernel
theorem dL_law_600 : decode cL_law 600 = .ok (.aload_n 2, 1) := by decide +kernel
theorem dL_law_601 : decode cL_law 601 = .ok (.aload_n 0, 1) := by decide +kernel
theorem dL_law_602 : decode cL_law 602 = .ok (.iload_n 3, 1) := by decide +kernel
theorem dL_law_603 : decode cL_law 603 = .ok (.iconst 1, 1) := by decide +kernel
theorem dL_law_604 : decode cL_law 604 = .ok (.iadd, 1) := by decide +kernel
theorem dL_law_605 : decode cL_law 605 = .ok (.iaload, 1) := by decide +kernel
theorem dL_law_606 : decode cL_law 606 = .ok (.invokevirtual 73, 3) := by decide +kernel
theorem dL_law_609 : decode cL_law 609 = .ok (.if_icmp .eq 281, 3) := by decide +kernel
theorem dL_law_612 : decode cL_law 612 = .ok (.iconst 0, 1) := by decide +kernel
theorem dL_law_613 : decode cL_law 613 = .ok (.ireturn, 1) := by decide +kernel
theorem dL_law_614 : decode cL_law 614 = .ok (.aload_n 1, 1) := by decide +kernel
theorem dL_law_615 : decode cL_law 615 = .ok (.aload_n 0, 1) := by decide +kernel
theorem dL_law_616 : decode cL_law 616 = .ok (.iload_n 3, 1) := by decide +kernel
theorem dL_law_617 : decode cL_law 617 = .ok (.iconst 1, 1) := by decide +kernel
theorem dL_law_618 : decode cL_law 618 = .ok (.iadd, 1) := by decide +kernel
theorem dL_law_619 : decode cL_law 619 = .ok (.iaload, 1) := by decide +kernel
theorem dL_law_620 : decode cL_law 620 = .ok (.invokevirtual 74, 3) := by decide +kernel
theorem dL_law_623 : decode cL_law 623 = .ok (.aload_n 2, 1) := by decide +kernel
theorem dL_law_624 : decode cL_law 624 = .ok (.aload_n 0, 1) := by decide +kernel
theorem dL_law_625 : decode cL_law 625 = .ok (.iload_n 3, 1) := by decide +kernel
theorem dL_law_626 : decode cL_law 626 = .ok (.iconst 1, 1) := by decide +kernel
theorem dL_law_627 : decode cL_law 627 = .ok (.iadd, 1) := by decide +kernel
theorem dL_law_628 : decode cL_law 628 = .ok (.iaload, 1) := by decide +kernel
theorem dL_law_629 : decode cL_law 629 = .ok (.invokevirtual 77, 3) := by decide +kernel
theorem dL_law_632 : decode cL_law 632 = .ok (.if_icmp .eq 258, 3) := by decide +kernel
theorem dL_law_635 : decode cL_law 635 = .ok (.iconst 0, 1) := by decide +kernel
theorem dL_law_636 : decode cL_law 636 = .ok (.ireturn, 1) := by decide +kernel
theorem dL_law_637 : decode cL_law 637 = .ok (.aload_n 1, 1) := by decide +kernel
theorem dL_law_638 : decode cL_law 638 = .ok (.invokevirtual 78, 3) := by decide +kernel
theorem dL_law_641 : decode cL_law 641 = .ok (.aload_n 2, 1) := by decide +kernel
theorem dL_law_642 : decode cL_law 642 = .ok (.invokevirtual 81, 3) := by decide +kernel
theorem dL_law_645 : decode cL_law 645 = .ok (.if_icmp .eq 245, 3) := by decide +kernel
theorem dL_law_648 : decode cL_law 648 = .ok (.iconst 0, 1) := by decide +kernel
theorem dL_law_649 : decode cL_law 649 = .ok (.ireturn, 1) := by decide +kernel
theorem dL_law_650 : decode cL_law 650 = .ok (.aload_n 1, 1) := by decide +kernel
theorem dL_law_651 : decode cL_law 651 = .ok (.aload_n 0, 1) := by decide +kernel
theorem dL_law_652 : decode cL_law 652 = .ok (.iload_n 3, 1) := by decide +kernel
theorem dL_law_653 : decode cL_law 653 = .ok (.iconst 1, 1) := by decide +kernel
theorem dL_law_654 : decode cL_law 654 = .ok (.iadd, 1) := by decide +kernel
theorem dL_law_655 : decode cL_law 655 = .ok (.iaload, 1) := by decide +kernel
theorem dL_law_656 : decode cL_law 656 = .ok (.aload_n 0, 1) := by decide +kernel
theorem dL_law_657 : decode cL_law 657 = .ok (.iload_n 3, 1) := by decide +kernel
theorem dL_law_658 : decode cL_law 658 = .ok (.iconst 2, 1) := by decide +kernel
theorem dL_law_659 : decode cL_law 659 = .ok (.iadd, 1) := by decide +kernel
theorem dL_law_660 : decode cL_law 660 = .ok (.iaload, 1) := by decide +kernel
theorem dL_law_661 : decode cL_law 661 = .ok (.aload_n 0, 1) := by decide +kernel
theorem dL_law_662 : decode cL_law 662 = .ok (.iload_n 3, 1) := by decide +kernel
theorem dL_law_663 : decode cL_law 663 = .ok (.iconst 3, 1) := by decide +kernel
theorem dL_law_664 : decode cL_law 664 = .ok (.iadd, 1) := by decide +kernel
theorem dL_law_665 : decode cL_law 665 = .ok (.iaload, 1) := by decide +kernel
theorem dL_law_666 : decode cL_law 666 = .ok (.invokevirtual 82, 3) := by decide +kernel
theorem dL_law_669 : decode cL_law 669 = .ok (.aload_n 2, 1) := by decide +kernel
theorem dL_law_670 : decode cL_law 670 = .ok (.aload_n 0, 1) := by decide +kernel
theorem dL_law_671 : decode cL_law 671 = .ok (.iload_n 3, 1) := by decide +kernel
theorem dL_law_672 : decode cL_law 672 = .ok (.iconst 1, 1) := by decide +kernel
theorem dL_law_673 : decode cL_law 673 = .ok (.iadd, 1) := by decide +kernel
theorem dL_law_674 : decode cL_law 674 = .ok (.iaload, 1) := by decide +kernel
theorem dL_law_675 : decode cL_law 675 = .ok (.aload_n 0, 1) := by decide +kernel
theorem dL_law_676 : decode cL_law 676 = .ok (.iload_n 3, 1) := by decide +kernel
theorem dL_law_677 : decode cL_law 677 = .ok (.iconst 2, 1) := by decide +kernel
theorem dL_law_678 : decode cL_law 678 = .ok (.iadd, 1) := by decide +kernel
theorem dL_law_679 : decode cL_law 679 = .ok (.iaload, 1) := by decide +kernel
theorem dL_law_680 : decode cL_law 680 = .ok (.aload_n 0, 1) := by decide +kernel
theorem dL_law_681 : decode cL_law 681 = .ok (.iload_n 3, 1) := by decide +kernel
theorem dL_law_682 : decode cL_law 682 = .ok (.iconst 3, 1) := by decide +kernel
theorem dL_law_683 : decode cL_law 683 = .ok (.iadd, 1) := by decide +kernel
theorem dL_law_684 : decode cL_law 684 = .ok (.iaload, 1) := by decide +kernel
theorem dL_law_685 : decode cL_law 685 = .ok (.invokevirtual 85, 3) := by decide +kernel
theorem dL_law_688 : decode cL_law 688 = .ok (.if_icmp .eq 202, 3) := by decide +kernel
theorem dL_law_691 : decode cL_law 691 = .ok (.iconst 0, 1) := by decide +kernel
theorem dL_law_692 : decode cL_law 692 = .ok (.ireturn, 1) := by decide +kernel
theorem dL_law_693 : decode cL_law 693 = .ok (.aload_n 1, 1) := by decide +kernel
theorem dL_law_694 : decode cL_law 694 = .ok (.aload_n 0, 1) := by decide +kernel
theorem dL_law_695 : decode cL_law 695 = .ok (.iload_n 3, 1) := by decide +kernel
theorem dL_law_696 : decode cL_law 696 = .ok (.iconst 1, 1) := by decide +kernel
theorem dL_law_697 : decode cL_law 697 = .ok (.iadd, 1) := by decide +kernel
theorem dL_law_698 : decode cL_law 698 = .ok (.iaload, 1) := by decide +kernel
theorem dL_law_699 : decode cL_law 699 = .ok (.aload_n 0, 1) := by decide +kernel
theorem dL_law_700 : decode cL_law 700 = .ok (.iload_n 3, 1) := by decide +kernel
theorem dL_law_701 : decode cL_law 701 = .ok (.iconst 2, 1) := by decide +kernel
theorem dL_law_702 : decode cL_law 702 = .ok (.iadd, 1) := by decide +kernel
theorem dL_law_703 : decode cL_law 703 = .ok (.iaload, 1) := by decide +kernel
theorem dL_law_704 : decode cL_law 704 = .ok (.invokevirtual 86, 3) := by decide +kernel
theorem dL_law_707 : decode cL_law 707 = .ok (.aload_n 2, 1) := by decide +kernel
theorem dL_law_708 : decode cL_law 708 = .ok (.aload_n 0, 1) := by decide +kernel
theorem dL_law_709 : decode cL_law 709 = .ok (.iload_n 3, 1) := by decide +kernel
theorem dL_law_710 : decode cL_law 710 = .ok (.iconst 1, 1) := by decide +kernel
theorem dL_law_711 : decode cL_law 711 = .ok (.iadd, 1) := by decide +kernel
theorem dL_law_712 : decode cL_law 712 = .ok (.iaload, 1) := by decide +kernel
theorem dL_law_713 : decode cL_law 713 = .ok (.aload_n 0, 1) := by decide +kernel
theorem dL_law_714 : decode cL_law 714 = .ok (.iload_n 3, 1) := by decide +kernel
theorem dL_law_715 : decode cL_law 715 = .ok (.iconst 2, 1) := by decide +kernel
theorem dL_law_716 : decode cL_law 716 = .ok (.iadd, 1) := by decide +kernel
theorem dL_law_717 : decode cL_law 717 = .ok (.iaload, 1) := by decide +kernel
theorem dL_law_718 : decode cL_law 718 = .ok (.invokevirtual 89, 3) := by decide +kernel
theorem dL_law_721 : decode cL_law 721 = .ok (.if_icmp .eq 169, 3) := by decide +kernel
theorem dL_law_724 : decode cL_law 724 = .ok (.iconst 0, 1) := by decide +kernel
theorem dL_law_725 : decode cL_law 725 = .ok (.ireturn, 1) := by decide +kernel
theorem dL_law_726 : decode cL_law 726 = .ok (.aload_n 1, 1) := by decide +kernel
theorem dL_law_727 : decode cL_law 727 = .ok (.invokevirtual 90, 3) := by decide +kernel
theorem dL_law_730 : decode cL_law 730 = .ok (.aload_n 2, 1) := by decide +kernel
theorem dL_law_731 : decode cL_law 731 = .ok (.invokevirtual 93, 3) := by decide +kernel
theorem dL_law_734 : decode cL_law 734 = .ok (.if_icmp .eq 156, 3) := by decide +kernel
theorem dL_law_737 : decode cL_law 737 = .ok (.iconst 0, 1) := by decide +kernel
theorem dL_law_738 : decode cL_law 738 = .ok (.ireturn, 1) := by decide +kernel
theorem dL_law_739 : decode cL_law 739 = .ok (.aload_n 1, 1) := by decide +kernel
theorem dL_law_740 : decode cL_law 740 = .ok (.aload_n 0, 1) := by decide +kernel
theorem dL_law_741 : decode cL_law 741 = .ok (.iload_n 3, 1) := by decide +kernel
theorem dL_law_742 : decode cL_law 742 = .ok (.iconst 1, 1) := by decide +kernel
theorem dL_law_743 : decode cL_law 743 = .ok (.iadd, 1) := by decide +kernel
theorem dL_law_744 : decode cL_law 744 = .ok (.iaload, 1) := by decide +kernel
theorem dL_law_745 : decode cL_law 745 = .ok (.i2l, 1) := by decide +kernel
theorem dL_law_746 : decode cL_law 746 = .ok (.bipush 32, 2) := by decide +kernel
theorem dL_law_748 : decode cL_law 748 = .ok (.lshl, 1) := by decide +kernel
theorem dL_law_749 : decode cL_law 749 = .ok (.aload_n 0, 1) := by decide +kernel
theorem dL_law_750 : decode cL_law 750 = .ok (.iload_n 3, 1) := by decide +kernel
theorem dL_law_751 : decode cL_law 751 = .ok (.iconst 2, 1) := by decide +kernel
theorem dL_law_752 : decode cL_law 752 = .ok (.iadd, 1) := by decide +kernel
theorem dL_law_753 : decode cL_law 753 = .ok (.iaload, 1) := by decide +kernel
theorem dL_law_754 : decode cL_law 754 = .ok (.i2l, 1) := by decide +kernel
theorem dL_law_755 : decode cL_law 755 = .ok (.ldc2_w 94, 3) := by decide +kernel
theorem dL_law_758 : decode cL_law 758 = .ok (.land, 1) := by decide +kernel
theorem dL_law_759 : decode cL_law 759 = .ok (.lor, 1) := by decide +kernel
theorem dL_law_760 : decode cL_law 760 = .ok (.invokevirtual 96, 3) := by decide +kernel
theorem dL_law_763 : decode cL_law 763 = .ok (.aload_n 2, 1) := by decide +kernel
theorem dL_law_764 : decode cL_law 764 = .ok (.aload_n 0, 1) := by decide +kernel
theorem dL_law_765 : decode cL_law 765 = .ok (.iload_n 3, 1) := by decide +kernel
theorem dL_law_766 : decode cL_law 766 = .ok (.iconst 1, 1) := by decide +kernel
theorem dL_law_767 : decode cL_law 767 = .ok (.iadd, 1) := by decide +kernel
theorem dL_law_768 : decode cL_law 768 = .ok (.iaload, 1) := by decide +kernel
theorem dL_law_769 : decode cL_law 769 = .ok (.i2l, 1) := by decide +kernel
theorem dL_law_770 : decode cL_law 770 = .ok (.bipush 32, 2) := by decide +kernel
theorem dL_law_772 : decode cL_law 772 = .ok (.lshl, 1) := by decide +kernel
theorem dL_law_773 : decode cL_law 773 = .ok (.aload_n 0, 1) := by decide +kernel
theorem dL_law_774 : decode cL_law 774 = .ok (.iload_n 3, 1) := by decide +kernel
theorem dL_law_775 : decode cL_law 775 = .ok (.iconst 2, 1) := by decide +kernel
theorem dL_law_776 : decode cL_law 776 = .ok (.iadd, 1) := by decide +kernel
theorem dL_law_777 : decode cL_law 777 = .ok (.iaload, 1) := by decide +kernel
theorem dL_law_778 : decode cL_law 778 = .ok (.i2l, 1) := by decide +kernel
theorem dL_law_779 : decode cL_law 779 = .ok (.ldc2_w 94, 3) := by decide +kernel
theorem dL_law_782 : decode cL_law 782 = .ok (.land, 1) := by decide +kernel
theorem dL_law_783 : decode cL_law 783 = .ok (.lor, 1) := by decide +kernel
theorem dL_law_784 : decode cL_law 784 = .ok (.invokevirtual 100, 3) := by decide +kernel
theorem dL_law_787 : decode cL_law 787 = .ok (.if_icmp .eq 103, 3) := by decide +kernel
theorem dL_law_790 : decode cL_law 790 = .ok (.iconst 0, 1) := by decide +kernel
theorem dL_law_791 : decode cL_law 791 = .ok (.ireturn, 1) := by decide +kernel
theorem dL_law_792 : decode cL_law 792 = .ok (.aload_n 1, 1) := by decide +kernel
theorem dL_law_793 : decode cL_law 793 = .ok (.invokevirtual 101, 3) := by decide +kernel
theorem dL_law_796 : decode cL_law 796 = .ok (.aload_n 2, 1) := by decide +kernel
theorem dL_law_797 : decode cL_law 797 = .ok (.invokevirtual 104, 3) := by decide +kernel
theorem dL_law_800 : decode cL_law 800 = .ok (.if_icmp .eq 90, 3) := by decide +kernel
theorem dL_law_803 : decode cL_law 803 = .ok (.iconst 0, 1) := by decide +kernel
theorem dL_law_804 : decode cL_law 804 = .ok (.ireturn, 1) := by decide +kernel
theorem dL_law_805 : decode cL_law 805 = .ok (.aload_n 1, 1) := by decide +kernel
theorem dL_law_806 : decode cL_law 806 = .ok (.invokevirtual 105, 3) := by decide +kernel
theorem dL_law_809 : decode cL_law 809 = .ok (.aload_n 2, 1) := by decide +kernel
theorem dL_law_810 : decode cL_law 810 = .ok (.invokevirtual 108, 3) := by decide +kernel
theorem dL_law_813 : decode cL_law 813 = .ok (.if_icmp .eq 77, 3) := by decide +kernel
theorem dL_law_816 : decode cL_law 816 = .ok (.iconst 0, 1) := by decide +kernel
theorem dL_law_817 : decode cL_law 817 = .ok (.ireturn, 1) := by decide +kernel
theorem dL_law_818 : decode cL_law 818 = .ok (.aload_n 1, 1) := by decide +kernel
theorem dL_law_819 : decode cL_law 819 = .ok (.invokevirtual 109, 3) := by decide +kernel
theorem dL_law_822 : decode cL_law 822 = .ok (.aload_n 2, 1) := by decide +kernel
theorem dL_law_823 : decode cL_law 823 = .ok (.invokevirtual 112, 3) := by decide +kernel
theorem dL_law_826 : decode cL_law 826 = .ok (.if_icmp .eq 64, 3) := by decide +kernel
theorem dL_law_829 : decode cL_law 829 = .ok (.iconst 0, 1) := by decide +kernel
theorem dL_law_830 : decode cL_law 830 = .ok (.ireturn, 1) := by decide +kernel
theorem dL_law_831 : decode cL_law 831 = .ok (.aload_n 1, 1) := by decide +kernel
theorem dL_law_832 : decode cL_law 832 = .ok (.invokevirtual 113, 3) := by decide +kernel
theorem dL_law_835 : decode cL_law 835 = .ok (.aload_n 2, 1) := by decide +kernel
theorem dL_law_836 : decode cL_law 836 = .ok (.invokevirtual 116, 3) := by decide +kernel
theorem dL_law_839 : decode cL_law 839 = .ok (.if_icmp .eq 51, 3) := by decide +kernel
theorem dL_law_842 : decode cL_law 842 = .ok (.iconst 0, 1) := by decide +kernel
theorem dL_law_843 : decode cL_law 843 = .ok (.ireturn, 1) := by decide +kernel
theorem dL_law_844 : decode cL_law 844 = .ok (.aload_n 1, 1) := by decide +kernel
theorem dL_law_845 : decode cL_law 845 = .ok (.aload_n 0, 1) := by decide +kernel
theorem dL_law_846 : decode cL_law 846 = .ok (.iload_n 3, 1) := by decide +kernel
theorem dL_law_847 : decode cL_law 847 = .ok (.iconst 1, 1) := by decide +kernel
theorem dL_law_848 : decode cL_law 848 = .ok (.iadd, 1) := by decide +kernel
theorem dL_law_849 : decode cL_law 849 = .ok (.iaload, 1) := by decide +kernel
theorem dL_law_850 : decode cL_law 850 = .ok (.invokevirtual 117, 3) := by decide +kernel
theorem dL_law_853 : decode cL_law 853 = .ok (.aload_n 2, 1) := by decide +kernel
theorem dL_law_854 : decode cL_law 854 = .ok (.aload_n 0, 1) := by decide +kernel
theorem dL_law_855 : decode cL_law 855 = .ok (.iload_n 3, 1) := by decide +kernel
theorem dL_law_856 : decode cL_law 856 = .ok (.iconst 1, 1) := by decide +kernel
theorem dL_law_857 : decode cL_law 857 = .ok (.iadd, 1) := by decide +kernel
theorem dL_law_858 : decode cL_law 858 = .ok (.iaload, 1) := by decide +kernel
theorem dL_law_859 : decode cL_law 859 = .ok (.invokevirtual 120, 3) := by decide +kernel
theorem dL_law_862 : decode cL_law 862 = .ok (.if_icmp .eq 28, 3) := by decide +kernel
theorem dL_law_865 : decode cL_law 865 = .ok (.iconst 0, 1) := by decide +kernel
theorem dL_law_866 : decode cL_law 866 = .ok (.ireturn, 1) := by decide +kernel
theorem dL_law_867 : decode cL_law 867 = .ok (.aload_n 1, 1) := by decide +kernel
theorem dL_law_868 : decode cL_law 868 = .ok (.aload_n 0, 1) := by decide +kernel
theorem dL_law_869 : decode cL_law 869 = .ok (.iload_n 3, 1) := by decide +kernel
theorem dL_law_870 : decode cL_law 870 = .ok (.iconst 1, 1) := by decide +kernel
theorem dL_law_871 : decode cL_law 871 = .ok (.iadd, 1) := by decide +kernel
theorem dL_law_872 : decode cL_law 872 = .ok (.iaload, 1) := by decide +kernel
theorem dL_law_873 : decode cL_law 873 = .ok (.invokevirtual 121, 3) := by decide +kernel
theorem dL_law_876 : decode cL_law 876 = .ok (.aload_n 2, 1) := by decide +kernel
theorem dL_law_877 : decode cL_law 877 = .ok (.aload_n 0, 1) := by decide +kernel
theorem dL_law_878 : decode cL_law 878 = .ok (.iload_n 3, 1) := by decide +kernel
theorem dL_law_879 : decode cL_law 879 = .ok (.iconst 1, 1) := by decide +kernel
theorem dL_law_880 : decode cL_law 880 = .ok (.iadd, 1) := by decide +kernel
theorem dL_law_881 : decode cL_law 881 = .ok (.iaload, 1) := by decide +kernel
theorem dL_law_882 : decode cL_law 882 = .ok (.invokevirtual 124, 3) := by decide +kernel
theorem dL_law_885 : decode cL_law 885 = .ok (.if_icmp .eq 5, 3) := by decide +kernel
theorem dL_law_888 : decode cL_law 888 = .ok (.iconst 0, 1) := by decide +kernel
theorem dL_law_889 : decode cL_law 889 = .ok (.ireturn, 1) := by decide +kernel
theorem dL_law_890 : decode cL_law 890 = .ok (.iinc 3 5, 3) := by decide +kernel
theorem dL_law_893 : decode cL_law 893 = .ok (.goto (-875), 3) := by decide +kernel
theorem dL_law_896 : decode cL_law 896 = .ok (.iconst 1, 1) := by decide +kernel
theorem dL_law_897 : decode cL_law 897 = .ok (.ireturn, 1) := by decide +kernel
end
section
/-! The environment E of a run: class numbers, array classes, the cells' addresses, the sweep order's address, the String constants' addresses. Heaps are pictures Hp: cell number, place, value. -/
abbrev EN : Type := va_G × (ClassId × ClassId × ClassId) × (Nat → Nat) × Nat × (Nat → Nat) × (Nat → Nat)
abbrev eD (E : EN) : va_G := E.1
abbrev eI (E : EN) : ClassId := E.2.1.1
abbrev eZ (E : EN) : ClassId := E.2.1.2.1
abbrev eC (E : EN) : ClassId := E.2.1.2.2
abbrev eA (E : EN) : Nat → Nat := E.2.2.1
abbrev eT (E : EN) : Nat := E.2.2.2.1
abbrev eK (E : EN) : Nat → Nat := E.2.2.2.2.1
abbrev eV (E : EN) : Nat → Nat := E.2.2.2.2.2
abbrev tys (E : EN) : List (ClassId × FieldType) := [(eI E, .int), (eZ E, .boolean), (eC E, .char)]
abbrev Hp : Type := Nat → Nat → Int32
def hf (h : Hp) (k : Nat) (f : Nat → Int32) : Hp := fun a => if a = k then f else h a
def hu (h : Hp) (k i : Nat) (v : Int32) : Hp := hf h k (upd (h k) i v)
def wld (E : EN) (h : Hp) : va_W :=
  [(eA E 0, .inr (4, [.ref (eA E 1), .ref (eA E 3), .ref (eA E 5), .ref (eA E 8), .ref (eA E 10)])),
   (eA E 1, .inr (3, [.ref (eA E 2)])), (eA E 2, .inl (eI E, 344, .inl (h 2))),
   (eA E 3, .inr (3, [.ref (eA E 4)])), (eA E 4, .inl (eI E, 344, .inl (h 4))),
   (eA E 5, .inr (0, [.ref (eA E 6), .ref (eA E 7), .int (h 5 2)])), (eA E 6, .inl (eI E, 8, .inl (h 6))), (eA E 7, .inl (eI E, 8, .inl (h 7))),
   (eA E 8, .inr (1, [.ref (eA E 9), .int (h 8 1), .int (h 8 2), .int (h 8 3)])), (eA E 9, .inl (eI E, 3096, .inl (h 9))),
   (eA E 10, .inr (2, [.ref (eA E 11), .int (h 10 1)])), (eA E 11, .inl (eI E, 80, .inl (h 11))),
   (eA E 12, .inr (5, [.ref (eA E 13), .ref (eA E 14), .ref (eA E 15), .ref (eA E 16), .ref (eA E 17), .ref (eA E 18), .ref (eA E 19), .ref (eA E 20), .ref (eA E 21), .int (h 12 9), .int (h 12 10), .int (h 12 11), .int (h 12 12)])),
   (eA E 13, .inl (eI E, 383, .inl (h 13))), (eA E 14, .inl (eI E, 383, .inl (h 14))), (eA E 15, .inl (eI E, 383, .inl (h 15))), (eA E 16, .inl (eI E, 2298, .inl (h 16))), (eA E 17, .inl (eI E, 766, .inl (h 17))),
   (eA E 18, .inl (eZ E, 2, .inl (h 18))), (eA E 19, .inl (eI E, 16, .inl (h 19))), (eA E 20, .inl (eI E, 210, .inl (h 20))), (eA E 21, .inl (eC E, 80, .inl (h 21)))]
/-- an array cell, by its number -/
def AR (E : EN) (k : Nat) (cy : ClassId) (n : Nat) : Prop := (∀ h : Hp, (wld E h)[k]? = some (eA E k, .inl (cy, n, .inl (h k)))) ∧ ∀ (h : Hp) (f : Nat → Int32), (wld E h).set k (eA E k, .inl (cy, n, .inl f)) = wld E (hf h k f)
/-- an int field of an object's cell -/
def FI (E : EN) (k ci : Nat) (fs : Hp → List Value) (j : Nat) : Prop := (∀ h : Hp, (wld E h)[k]? = some (eA E k, .inr (ci, fs h))) ∧ (∀ h : Hp, (fs h)[j]? = some (.int (h k j))) ∧ ∀ (h : Hp) (v : Int32), (wld E h).set k (eA E k, .inr (ci, (fs h).set j (.int v))) = wld E (hu h k j v)
/-- a state object: cells at the next number -/
def SR (E : EN) (k : Nat) : Prop := (∀ h : Hp, (wld E h)[k]? = some (eA E k, .inr (3, [.ref (eA E (k + 1))]))) ∧ AR E (k + 1) (eI E) 344
theorem AR_2 (E : EN) : AR E 2 (eI E) 344 := ⟨fun _ => rfl, fun h f => by simp [wld, hf]⟩
theorem AR_4 (E : EN) : AR E 4 (eI E) 344 := ⟨fun _ => rfl, fun h f => by simp [wld, hf]⟩
theorem AR_6 (E : EN) : AR E 6 (eI E) 8 := ⟨fun _ => rfl, fun h f => by simp [wld, hf]⟩
theorem AR_7 (E : EN) : AR E 7 (eI E) 8 := ⟨fun _ => rfl, fun h f => by simp [wld, hf]⟩
theorem AR_9 (E : EN) : AR E 9 (eI E) 3096 := ⟨fun _ => rfl, fun h f => by simp [wld, hf]⟩
theorem AR_11 (E : EN) : AR E 11 (eI E) 80 := ⟨fun _ => rfl, fun h f => by simp [wld, hf]⟩
theorem AR_13 (E : EN) : AR E 13 (eI E) 383 := ⟨fun _ => rfl, fun h f => by simp [wld, hf]⟩
theorem AR_14 (E : EN) : AR E 14 (eI E) 383 := ⟨fun _ => rfl, fun h f => by simp [wld, hf]⟩
theorem AR_15 (E : EN) : AR E 15 (eI E) 383 := ⟨fun _ => rfl, fun h f => by simp [wld, hf]⟩
theorem AR_16 (E : EN) : AR E 16 (eI E) 2298 := ⟨fun _ => rfl, fun h f => by simp [wld, hf]⟩
theorem AR_17 (E : EN) : AR E 17 (eI E) 766 := ⟨fun _ => rfl, fun h f => by simp [wld, hf]⟩
theorem AR_18 (E : EN) : AR E 18 (eZ E) 2 := ⟨fun _ => rfl, fun h f => by simp [wld, hf]⟩
theorem AR_19 (E : EN) : AR E 19 (eI E) 16 := ⟨fun _ => rfl, fun h f => by simp [wld, hf]⟩
theorem AR_20 (E : EN) : AR E 20 (eI E) 210 := ⟨fun _ => rfl, fun h f => by simp [wld, hf]⟩
theorem AR_21 (E : EN) : AR E 21 (eC E) 80 := ⟨fun _ => rfl, fun h f => by simp [wld, hf]⟩
abbrev fs_5 (E : EN) : Hp → List Value := fun h => [.ref (eA E 6), .ref (eA E 7), .int (h 5 2)]
theorem FI_5_2 (E : EN) : FI E 5 0 (fs_5 E) 2 := ⟨fun _ => rfl, fun _ => rfl, fun h v => by simp [wld, hu, hf, upd]⟩
abbrev fs_8 (E : EN) : Hp → List Value := fun h => [.ref (eA E 9), .int (h 8 1), .int (h 8 2), .int (h 8 3)]
theorem FI_8_1 (E : EN) : FI E 8 1 (fs_8 E) 1 := ⟨fun _ => rfl, fun _ => rfl, fun h v => by simp [wld, hu, hf, upd]⟩
theorem FI_8_2 (E : EN) : FI E 8 1 (fs_8 E) 2 := ⟨fun _ => rfl, fun _ => rfl, fun h v => by simp [wld, hu, hf, upd]⟩
theorem FI_8_3 (E : EN) : FI E 8 1 (fs_8 E) 3 := ⟨fun _ => rfl, fun _ => rfl, fun h v => by simp [wld, hu, hf, upd]⟩
abbrev fs_10 (E : EN) : Hp → List Value := fun h => [.ref (eA E 11), .int (h 10 1)]
theorem FI_10_1 (E : EN) : FI E 10 2 (fs_10 E) 1 := ⟨fun _ => rfl, fun _ => rfl, fun h v => by simp [wld, hu, hf, upd]⟩
abbrev fs_12 (E : EN) : Hp → List Value := fun h => [.ref (eA E 13), .ref (eA E 14), .ref (eA E 15), .ref (eA E 16), .ref (eA E 17), .ref (eA E 18), .ref (eA E 19), .ref (eA E 20), .ref (eA E 21), .int (h 12 9), .int (h 12 10), .int (h 12 11), .int (h 12 12)]
theorem FI_12_9 (E : EN) : FI E 12 5 (fs_12 E) 9 := ⟨fun _ => rfl, fun _ => rfl, fun h v => by simp [wld, hu, hf, upd]⟩
theorem FI_12_10 (E : EN) : FI E 12 5 (fs_12 E) 10 := ⟨fun _ => rfl, fun _ => rfl, fun h v => by simp [wld, hu, hf, upd]⟩
theorem FI_12_11 (E : EN) : FI E 12 5 (fs_12 E) 11 := ⟨fun _ => rfl, fun _ => rfl, fun h v => by simp [wld, hu, hf, upd]⟩
theorem FI_12_12 (E : EN) : FI E 12 5 (fs_12 E) 12 := ⟨fun _ => rfl, fun _ => rfl, fun h v => by simp [wld, hu, hf, upd]⟩
theorem SR_1 (E : EN) : SR E 1 := ⟨fun _ => rfl, AR_2 E⟩
theorem SR_3 (E : EN) : SR E 3 := ⟨fun _ => rfl, AR_4 E⟩
/-- the words that every method may use -/
def LW : List Cond := lw_tbl.filter goodWord
theorem LW_good : GoodIn LW LW := fun w h => ⟨h, good_of_word (List.mem_filter.mp h).2⟩
theorem LW_of (i : Nat) {w : Cond} (h : lw_tbl[i]? = some w) (hg : goodWord w = true) : w ∈ LW := List.mem_filter.mpr ⟨List.mem_of_getElem? h, hg⟩
def sk_len : List Nat := [3, 6, 4, 11, 3, 1, 0]
def sk_byt : List (List Int32) := [[104, 68, 67], [112, 68, 68, 68, 42, 78], [115, 68, 68, 68], [116, 68, 61, 79, 79, 79, 79, 79, 79, 79, 79], [98, 68, 83], [99], []]
def sk_tx : List String := ["hDC", "pDDD*N", "sDDD", "tD=OOOOOOOO", "bDS", "c", ""]
def swo : List Int32 := [0, 2, 1, 3]
def nestL : List Cond := [.methodLinkNest RX7 21 yX0_init "SandMandalas", .methodLinkNest RX7 28 yX2_init "SandMandalas", .methodLinkNest RX7 35 yX4_init "SandMandalas", .methodLinkNest RX1 29 yX7_isRing "SandMandalas", .methodLinkNest RX1 42 yX7_bit "SandMandalas", .methodLinkNest RX1 46 yX7_isQuarter "SandMandalas", .methodLinkNest RX1 49 yX7_isColour "SandMandalas", .methodLinkNest RX1 67 yX7_isPlace "SandMandalas", .methodLinkNest RX1 85 yX7_isDirection "SandMandalas", .methodLinkNest RX6 35 yX7_bit "SandMandalas", .methodLinkNest RX5 57 yX7_isColour "SandMandalas", .methodLinkNest RX6 65 yX7_isColour "SandMandalas", .methodLinkNest RX3 89 yX7_bit "SandMandalas"]
/-- what a method takes as given of the machine's tables and of the cells that nobody writes -/
def CP (E : EN) (A : Nat → Prop) (U : State) : Prop := va_K (eD E) vwCl (tys E) U ∧ (∀ w ∈ nestL, va_Nw w U) ∧ va_Z RX1 "SWEEP_ORDER" "[I" (.ref (eT E)) A U U.heap ∧ va_T .int (eT E) 4 (fun j => .int (swo.getD j 0)) A U U.heap ∧
  vk_S 7 sk_len sk_byt (eK E) (eV E) A U U.heap ∧ (∀ i : Nat, i < 7 → vk_R RX3 (44 + 2 * i) (sk_tx.getD i "") (eK E i) U) ∧ va_Z RJ0 "COMPACT_STRINGS" "Z" (.int 1) A U U.heap ∧ va_Zq RJ3 "SIOOBE_FORMATTER" "Ljava/util/function/BiFunction;" A U U.heap
def isNest : Cond → Bool
  | .methodLinkNest .. => true
  | _ => false
theorem nestL_nest : nestL.all isNest = true := by decide +kernel
theorem va_Nw.warmAny {w : Cond} (hn : isNest w = true) {s U : State} (hW : s.WarmedH U.vm) (hZ : va_Nw w s) : va_Nw w U := by
  cases w <;> first | (simp [isNest] at hn; done) | exact va_Nw.warmM hW hZ
theorem CP.warm {E : EN} {A A' : Nat → Prop} {s U : State} {H0 : Heap} {locs : List Loc} (h : CP E A s) (hW : s.WarmedH U.vm) (hS : va_S A s.heap U.heap locs) (hAA : ∀ q, A' q → A q) : CP E A' U := by
  obtain ⟨h1, h2, h3, h4, h5, h6, h7, h8⟩ := h
  have hv := hW.alike
  refine ⟨h1.moved hv, fun w hw => va_Nw.warmAny (List.all_eq_true.mp nestL_nest w hw) hW (h2 w hw), ((h3.moved hv).kept hS.2.1).narrow hAA, ((h4.moved hv).kept hS.2.1).narrow hAA, ((h5.moved hv).kept hS.2.1).narrow hAA, fun i hi => (h6 i hi).warm hW, ((h7.moved hv).kept hS.2.1).narrow hAA, ((h8.moved hv).kept hS.2.1).narrow hAA⟩
theorem CP.blind {E : EN} {A : Nat → Prop} {U : State} {a : Array Value} (g : JFrame) (mk : MethodId) (h : CP E A U) : CP E A (U.calling g mk a) := by
  have hv : U.vm.Alike (U.calling g mk a).vm := Vm.Alike.refl U.vm
  obtain ⟨h1, h2, h3, h4, h5, h6, h7, h8⟩ := h
  refine ⟨h1.moved (u := U) hv, fun w hw => ?_, h3.moved (u := U) hv, h4.moved (u := U) hv, h5.moved (u := U) hv, fun i hi => (h6 i hi).same (u := U) rfl, h7.moved (u := U) hv, h8.moved (u := U) hv⟩
  have hn := List.all_eq_true.mp nestL_nest w hw
  have hz := h2 w hw
  cases w <;> first | (simp [isNest] at hn; done) | exact va_Nw.same rfl (u := U) rfl hz
def rm (d : Nat) : Room := { frames := d, cells := 0, slots := 0, locals := 40 * d }
abbrev Qi (E : EN) (A : Nat → Prop) (r : Int32) (h' : Hp) : Array Value → State → Outcome → State → Prop := va_Qi (fun (r' : Int32) (u : Hp) => r' = r ∧ u = h') (fun (u : Hp) (t : State) => va_P (eD E) vwCl (wld E u) t.heap ∧ va_D A (wld E u)) A
abbrev Qv (E : EN) (A : Nat → Prop) (h' : Hp) : Array Value → State → Outcome → State → Prop := va_Qv (fun (u : Hp) => u = h') (fun (u : Hp) (t : State) => va_P (eD E) vwCl (wld E u) t.heap ∧ va_D A (wld E u)) A
abbrev Pre (E : EN) (h : Hp) (sz : Nat) (As : List Value) : Array Value → State → Prop := va_Pc As (fun U => U.heap.size = sz ∧ va_P (eD E) vwCl (wld E h) U.heap ∧ CP E (va_A (wld E h) sz) U ∧ va_D (fun _ => True) (wld E h))
/-- a method's contract: on the picture h it answers r and leaves the picture h' -/
def SMi (l : Launch) (E : EN) (d : Nat) (y : MethodName) (cc : ByteArray) (nL : Nat) (ret : Option FieldType) (As : List Value) (h : Hp) (r : Int32) (h' : Hp) : Prop := ∀ sz : Nat, Met l y (.code y cc nL ret :: LW) (rm d) (Pre E h sz As) (Qi E (va_A (wld E h) sz) r h') 0 0 (va_A (wld E h) sz)
def SMv (l : Launch) (E : EN) (d : Nat) (y : MethodName) (cc : ByteArray) (nL : Nat) (As : List Value) (h : Hp) (h' : Hp) : Prop := ∀ sz : Nat, Met l y (.code y cc nL none :: LW) (rm d) (Pre E h sz As) (Qv E (va_A (wld E h) sz) h') 0 0 (va_A (wld E h) sz)
/-- what stays as it is all along a method's run -/
def XC (E : EN) (own : String) (cc : ByteArray) (nL : Nat) (ret : Option FieldType) (A : Nat → Prop) (p : Program) (s : State) (m : MethodId) (args : Array Value) (meth : Method) (c : Code) : Prop :=
  p.tables.exec = Jvm.exec ∧ c.code = cc ∧ meth.sig.returnType = ret ∧ c.maxLocals = nL ∧ s.vm.findClass own = some m.cls ∧ (∀ w ∈ LW, w.before args s = true) ∧ meth.locks = false ∧ CP E A s ∧ ∀ q : Nat, s.heap.size ≤ q → A q
/-- the goal at a place of a method's run: locals lv, stack st, picture h -/
def V (E : EN) (nL : Nat) (A : Nat → Prop) (p : Program) (l : Launch) (e : Env) (R : Room) (s : State) (m : MethodId) (args : Array Value) (below : List Frame) (meth : Method) (c : Code) (cells slots : Nat) (Q : State → Prop) (pc : Nat) (lv : List (Nat × Value)) (st : List Value) (h : Hp) : Prop :=
  ∀ (H : Heap) (locs : List Loc) (ls : Array Slot), va_P (eD E) vwCl (wld E h) H → va_D A (wld E h) → va_S A s.heap H locs → lv_has ls nL lv → W p l e R s m args below meth c H locs cells slots Q (F0 m pc ls st)
theorem ift {α : Type} {c : Prop} [Decidable c] {a b x : α} (hf : (if c then a else b) = x) (h : c) : a = x := by rw [if_pos h] at hf; exact hf
theorem ife {α : Type} {c : Prop} [Decidable c] {a b x : α} (hf : (if c then a else b) = x) (h : ¬ c) : b = x := by rw [if_neg h] at hf; exact hf
theorem ogd {α : Type} {b : Bool} {a : Option α} {x : α} (hf : (if b = true then a else none) = some x) : b = true ∧ a = some x := by
  by_cases h : b = true
  · rw [if_pos h] at hf; exact ⟨h, hf⟩
  · rw [if_neg h] at hf; cases hf
theorem ond {α : Type} {c : Prop} [Decidable c] {a : Option α} {x : α} (hf : (if c then none else a) = some x) : ¬ c ∧ a = some x := by
  by_cases h : c
  · rw [if_pos h] at hf; cases hf
  · rw [if_neg h] at hf; exact ⟨h, hf⟩
theorem obd {α β : Type} {o : Option α} {k : α → Option β} {x : β} (hf : o.bind k = some x) : ∃ a, o = some a ∧ k a = some x := by
  cases o with
  | none => cases hf
  | some a => exact ⟨a, rfl, hf⟩
def inB (i : Int32) (n : Nat) : Bool := decide (¬ (i < 0 ∨ n ≤ i.toNatClampNeg))
theorem inB_in {i : Int32} {n : Nat} (h : inB i n = true) : vp_in i n := of_decide_eq_true (p := ¬ (i < 0 ∨ n ≤ i.toNatClampNeg)) h
abbrev Re : Type := Option (Int32 × Hp)
/-- a truth value is returned -/
def rz (v : Int32) (h : Hp) : Re := if v = 0 ∨ v = 1 then some (v, h) else none
def tsel (x : Int32) (dflt lo hi : Int) (offs : Array Int) : Int := if x.toInt < lo ∨ hi < x.toInt then dflt else (offs[(x.toInt - lo).toNat]?).getD dflt
section VR
variable {E : EN} {own : String} {cc : ByteArray} {nL : Nat} {ret : Option FieldType} {A : Nat → Prop} {p : Program} {l : Launch} {e : Env} {R : Room} {s : State} {m : MethodId} {args : Array Value} {below : List Frame} {meth : Method} {c : Code} {cells slots : Nat} {Q : State → Prop} {pc : Nat} {lv lv' : List (Nat × Value)} {st : List Value} {h h' : Hp}
theorem V_iconst (X : XC E own cc nL ret A p s m args meth c) {n : Int} {v : Int32} (hv : Int32.ofInt n = v) (hd : decode cc pc = .ok (.iconst n, 1)) (kk : V E nL A p l e R s m args below meth c cells slots Q (pc + 1) lv (.int v :: st) h) : V E nL A p l e R s m args below meth c cells slots Q pc lv st h := fun H locs ls hP hD hS hl => lv_iconst X.1 X.2.1 hd hv (kk H locs ls hP hD hS hl)
theorem V_bipush (X : XC E own cc nL ret A p s m args meth c) {n : Int} {v : Int32} (hv : (Int8.ofInt n).toInt32 = v) (hd : decode cc pc = .ok (.bipush n, 2)) (kk : V E nL A p l e R s m args below meth c cells slots Q (pc + 2) lv (.int v :: st) h) : V E nL A p l e R s m args below meth c cells slots Q pc lv st h := fun H locs ls hP hD hS hl => lv_bipush X.1 X.2.1 hd hv (kk H locs ls hP hD hS hl)
theorem V_sipush (X : XC E own cc nL ret A p s m args meth c) {n : Int} {v : Int32} (hv : (Int16.ofInt n).toInt32 = v) (hd : decode cc pc = .ok (.sipush n, 3)) (kk : V E nL A p l e R s m args below meth c cells slots Q (pc + 3) lv (.int v :: st) h) : V E nL A p l e R s m args below meth c cells slots Q pc lv st h := fun H locs ls hP hD hS hl => lv_sipush X.1 X.2.1 hd hv (kk H locs ls hP hD hS hl)
theorem V_lconst (X : XC E own cc nL ret A p s m args meth c) {n : Fin 2} {v : Int64} (hv : Int64.ofNat (n : Nat) = v) (hd : decode cc pc = .ok (.lconst n, 1)) (kk : V E nL A p l e R s m args below meth c cells slots Q (pc + 1) lv (.long v :: st) h) : V E nL A p l e R s m args below meth c cells slots Q pc lv st h := fun H locs ls hP hD hS hl => lv_lconst X.1 X.2.1 hd hv (kk H locs ls hP hD hS hl)
theorem V_iload_n (X : XC E own cc nL ret A p s m args meth c) {k : Fin 4} {x : Int32} (j : Nat) (hj : lv[j]? = some ((k : Nat), .int x)) (hd : decode cc pc = .ok (.iload_n k, 1)) (kk : V E nL A p l e R s m args below meth c cells slots Q (pc + 1) lv (.int x :: st) h) : V E nL A p l e R s m args below meth c cells slots Q pc lv st h := fun H locs ls hP hD hS hl => lv_iload_n X.1 X.2.1 hd rfl (lv_at hl j hj) (kk H locs ls hP hD hS hl)
theorem V_iload (X : XC E own cc nL ret A p s m args meth c) {i : Nat} {x : Int32} (j : Nat) (hj : lv[j]? = some (i, .int x)) (hd : decode cc pc = .ok (.iload i, 2)) (kk : V E nL A p l e R s m args below meth c cells slots Q (pc + 2) lv (.int x :: st) h) : V E nL A p l e R s m args below meth c cells slots Q pc lv st h := fun H locs ls hP hD hS hl => lv_iload X.1 X.2.1 hd (lv_at hl j hj) (kk H locs ls hP hD hS hl)
theorem V_istore_n (X : XC E own cc nL ret A p s m args meth c) {k : Fin 4} {x : Int32} (hn : (k : Nat) < nL) (hlv : ((k : Nat), Value.int x) :: lv.filter (fun q => !(q.1 == (k : Nat)) && !(q.1 + 1 == (k : Nat) && q.2.category == 2)) = lv') (hd : decode cc pc = .ok (.istore_n k, 1)) (kk : V E nL A p l e R s m args below meth c cells slots Q (pc + 1) lv' st h) : V E nL A p l e R s m args below meth c cells slots Q pc lv (.int x :: st) h := fun H locs ls hP hD hS hl => lv_istore_n X.1 X.2.1 hd rfl hl hn hlv (fun ls1 hl1 => kk H locs ls1 hP hD hS hl1)
theorem V_istore (X : XC E own cc nL ret A p s m args meth c) {i : Nat} {x : Int32} (hn : i < nL) (hlv : (i, Value.int x) :: lv.filter (fun q => !(q.1 == i) && !(q.1 + 1 == i && q.2.category == 2)) = lv') (hd : decode cc pc = .ok (.istore i, 2)) (kk : V E nL A p l e R s m args below meth c cells slots Q (pc + 2) lv' st h) : V E nL A p l e R s m args below meth c cells slots Q pc lv (.int x :: st) h := fun H locs ls hP hD hS hl => lv_istore X.1 X.2.1 hd hl hn hlv (fun ls1 hl1 => kk H locs ls1 hP hD hS hl1)
theorem V_lload_n (X : XC E own cc nL ret A p s m args meth c) {k : Fin 4} {x : Int64} (j : Nat) (hj : lv[j]? = some ((k : Nat), .long x)) (hd : decode cc pc = .ok (.lload_n k, 1)) (kk : V E nL A p l e R s m args below meth c cells slots Q (pc + 1) lv (.long x :: st) h) : V E nL A p l e R s m args below meth c cells slots Q pc lv st h := fun H locs ls hP hD hS hl => lv_lload_n X.1 X.2.1 hd rfl (lv_at hl j hj) (kk H locs ls hP hD hS hl)
theorem V_lload (X : XC E own cc nL ret A p s m args meth c) {i : Nat} {x : Int64} (j : Nat) (hj : lv[j]? = some (i, .long x)) (hd : decode cc pc = .ok (.lload i, 2)) (kk : V E nL A p l e R s m args below meth c cells slots Q (pc + 2) lv (.long x :: st) h) : V E nL A p l e R s m args below meth c cells slots Q pc lv st h := fun H locs ls hP hD hS hl => lv_lload X.1 X.2.1 hd (lv_at hl j hj) (kk H locs ls hP hD hS hl)
theorem V_lstore_n (X : XC E own cc nL ret A p s m args meth c) {k : Fin 4} {x : Int64} (hn : (k : Nat) + 1 < nL) (hlv : ((k : Nat), Value.long x) :: lv.filter (fun q => !(q.1 == (k : Nat)) && (!(q.1 == (k : Nat) + 1) && !(q.1 + 1 == (k : Nat) && q.2.category == 2))) = lv') (hd : decode cc pc = .ok (.lstore_n k, 1)) (kk : V E nL A p l e R s m args below meth c cells slots Q (pc + 1) lv' st h) : V E nL A p l e R s m args below meth c cells slots Q pc lv (.long x :: st) h := fun H locs ls hP hD hS hl => lv_lstore_n X.1 X.2.1 hd rfl hl hn hlv (fun ls1 hl1 => kk H locs ls1 hP hD hS hl1)
theorem V_lstore (X : XC E own cc nL ret A p s m args meth c) {i : Nat} {x : Int64} (hn : i + 1 < nL) (hlv : (i, Value.long x) :: lv.filter (fun q => !(q.1 == i) && (!(q.1 == i + 1) && !(q.1 + 1 == i && q.2.category == 2))) = lv') (hd : decode cc pc = .ok (.lstore i, 2)) (kk : V E nL A p l e R s m args below meth c cells slots Q (pc + 2) lv' st h) : V E nL A p l e R s m args below meth c cells slots Q pc lv (.long x :: st) h := fun H locs ls hP hD hS hl => lv_lstore X.1 X.2.1 hd hl hn hlv (fun ls1 hl1 => kk H locs ls1 hP hD hS hl1)
theorem V_aload_n (X : XC E own cc nL ret A p s m args meth c) {k : Fin 4} {x : Nat} (j : Nat) (hj : lv[j]? = some ((k : Nat), .ref x)) (hd : decode cc pc = .ok (.aload_n k, 1)) (kk : V E nL A p l e R s m args below meth c cells slots Q (pc + 1) lv (.ref x :: st) h) : V E nL A p l e R s m args below meth c cells slots Q pc lv st h := fun H locs ls hP hD hS hl => lv_aload_n X.1 X.2.1 hd rfl (lv_at hl j hj) (kk H locs ls hP hD hS hl)
theorem V_aload (X : XC E own cc nL ret A p s m args meth c) {i : Nat} {x : Nat} (j : Nat) (hj : lv[j]? = some (i, .ref x)) (hd : decode cc pc = .ok (.aload i, 2)) (kk : V E nL A p l e R s m args below meth c cells slots Q (pc + 2) lv (.ref x :: st) h) : V E nL A p l e R s m args below meth c cells slots Q pc lv st h := fun H locs ls hP hD hS hl => lv_aload X.1 X.2.1 hd (lv_at hl j hj) (kk H locs ls hP hD hS hl)
theorem V_astore_n (X : XC E own cc nL ret A p s m args meth c) {k : Fin 4} {x : Nat} (hn : (k : Nat) < nL) (hlv : ((k : Nat), Value.ref x) :: lv.filter (fun q => !(q.1 == (k : Nat)) && !(q.1 + 1 == (k : Nat) && q.2.category == 2)) = lv') (hd : decode cc pc = .ok (.astore_n k, 1)) (kk : V E nL A p l e R s m args below meth c cells slots Q (pc + 1) lv' st h) : V E nL A p l e R s m args below meth c cells slots Q pc lv (.ref x :: st) h := fun H locs ls hP hD hS hl => lv_astore_n X.1 X.2.1 hd rfl hl hn hlv (fun ls1 hl1 => kk H locs ls1 hP hD hS hl1)
theorem V_astore (X : XC E own cc nL ret A p s m args meth c) {i : Nat} {x : Nat} (hn : i < nL) (hlv : (i, Value.ref x) :: lv.filter (fun q => !(q.1 == i) && !(q.1 + 1 == i && q.2.category == 2)) = lv') (hd : decode cc pc = .ok (.astore i, 2)) (kk : V E nL A p l e R s m args below meth c cells slots Q (pc + 2) lv' st h) : V E nL A p l e R s m args below meth c cells slots Q pc lv (.ref x :: st) h := fun H locs ls hP hD hS hl => lv_astore X.1 X.2.1 hd hl hn hlv (fun ls1 hl1 => kk H locs ls1 hP hD hS hl1)
theorem V_iinc (X : XC E own cc nL ret A p s m args meth c) {i : Nat} {n : Int} {x v : Int32} (j : Nat) (hj : lv[j]? = some (i, .int x)) (hv : x + Int32.ofInt n = v) (hn : i < nL) (hlv : (i, Value.int v) :: lv.filter (fun q => !(q.1 == i) && !(q.1 + 1 == i && q.2.category == 2)) = lv') (hd : decode cc pc = .ok (.iinc i n, 3)) (kk : V E nL A p l e R s m args below meth c cells slots Q (pc + 3) lv' st h) : V E nL A p l e R s m args below meth c cells slots Q pc lv st h := fun H locs ls hP hD hS hl => lv_iinc X.1 X.2.1 hd hl hj hv hn hlv (fun ls1 hl1 => kk H locs ls1 hP hD hS hl1)
theorem V_iadd (X : XC E own cc nL ret A p s m args meth c) {x y : Int32} (hd : decode cc pc = .ok (.iadd, 1)) (kk : V E nL A p l e R s m args below meth c cells slots Q (pc + 1) lv (.int (x + y) :: st) h) : V E nL A p l e R s m args below meth c cells slots Q pc lv (.int y :: .int x :: st) h := fun H locs ls hP hD hS hl => lv_iadd X.1 X.2.1 hd  (kk H locs ls hP hD hS hl)
theorem V_isub (X : XC E own cc nL ret A p s m args meth c) {x y : Int32} (hd : decode cc pc = .ok (.isub, 1)) (kk : V E nL A p l e R s m args below meth c cells slots Q (pc + 1) lv (.int (x - y) :: st) h) : V E nL A p l e R s m args below meth c cells slots Q pc lv (.int y :: .int x :: st) h := fun H locs ls hP hD hS hl => lv_isub X.1 X.2.1 hd  (kk H locs ls hP hD hS hl)
theorem V_imul (X : XC E own cc nL ret A p s m args meth c) {x y : Int32} (hd : decode cc pc = .ok (.imul, 1)) (kk : V E nL A p l e R s m args below meth c cells slots Q (pc + 1) lv (.int (x * y) :: st) h) : V E nL A p l e R s m args below meth c cells slots Q pc lv (.int y :: .int x :: st) h := fun H locs ls hP hD hS hl => lv_imul X.1 X.2.1 hd  (kk H locs ls hP hD hS hl)
theorem V_iand (X : XC E own cc nL ret A p s m args meth c) {x y : Int32} (hd : decode cc pc = .ok (.iand, 1)) (kk : V E nL A p l e R s m args below meth c cells slots Q (pc + 1) lv (.int (x &&& y) :: st) h) : V E nL A p l e R s m args below meth c cells slots Q pc lv (.int y :: .int x :: st) h := fun H locs ls hP hD hS hl => lv_iand X.1 X.2.1 hd  (kk H locs ls hP hD hS hl)
theorem V_ior (X : XC E own cc nL ret A p s m args meth c) {x y : Int32} (hd : decode cc pc = .ok (.ior, 1)) (kk : V E nL A p l e R s m args below meth c cells slots Q (pc + 1) lv (.int (x ||| y) :: st) h) : V E nL A p l e R s m args below meth c cells slots Q pc lv (.int y :: .int x :: st) h := fun H locs ls hP hD hS hl => lv_ior X.1 X.2.1 hd  (kk H locs ls hP hD hS hl)
theorem V_ixor (X : XC E own cc nL ret A p s m args meth c) {x y : Int32} (hd : decode cc pc = .ok (.ixor, 1)) (kk : V E nL A p l e R s m args below meth c cells slots Q (pc + 1) lv (.int (x ^^^ y) :: st) h) : V E nL A p l e R s m args below meth c cells slots Q pc lv (.int y :: .int x :: st) h := fun H locs ls hP hD hS hl => lv_ixor X.1 X.2.1 hd  (kk H locs ls hP hD hS hl)
theorem V_ishl (X : XC E own cc nL ret A p s m args meth c) {x y : Int32} (hd : decode cc pc = .ok (.ishl, 1)) (kk : V E nL A p l e R s m args below meth c cells slots Q (pc + 1) lv (.int (x <<< (y &&& 31)) :: st) h) : V E nL A p l e R s m args below meth c cells slots Q pc lv (.int y :: .int x :: st) h := fun H locs ls hP hD hS hl => lv_ishl X.1 X.2.1 hd  (kk H locs ls hP hD hS hl)
theorem V_ishr (X : XC E own cc nL ret A p s m args meth c) {x y : Int32} (hd : decode cc pc = .ok (.ishr, 1)) (kk : V E nL A p l e R s m args below meth c cells slots Q (pc + 1) lv (.int (x >>> (y &&& 31)) :: st) h) : V E nL A p l e R s m args below meth c cells slots Q pc lv (.int y :: .int x :: st) h := fun H locs ls hP hD hS hl => lv_ishr X.1 X.2.1 hd  (kk H locs ls hP hD hS hl)
theorem V_idiv (X : XC E own cc nL ret A p s m args meth c) {x y : Int32} (hne : ¬ y = 0) (hd : decode cc pc = .ok (.idiv, 1)) (kk : V E nL A p l e R s m args below meth c cells slots Q (pc + 1) lv (.int (x / y) :: st) h) : V E nL A p l e R s m args below meth c cells slots Q pc lv (.int y :: .int x :: st) h := fun H locs ls hP hD hS hl => lv_idiv X.1 X.2.1 hd hne (kk H locs ls hP hD hS hl)
theorem V_irem (X : XC E own cc nL ret A p s m args meth c) {x y : Int32} (hne : ¬ y = 0) (hd : decode cc pc = .ok (.irem, 1)) (kk : V E nL A p l e R s m args below meth c cells slots Q (pc + 1) lv (.int (x - x / y * y) :: st) h) : V E nL A p l e R s m args below meth c cells slots Q pc lv (.int y :: .int x :: st) h := fun H locs ls hP hD hS hl => lv_irem X.1 X.2.1 hd hne (kk H locs ls hP hD hS hl)
theorem V_ineg (X : XC E own cc nL ret A p s m args meth c) {x : Int32} (hd : decode cc pc = .ok (.ineg, 1)) (kk : V E nL A p l e R s m args below meth c cells slots Q (pc + 1) lv (.int (-x) :: st) h) : V E nL A p l e R s m args below meth c cells slots Q pc lv (.int x :: st) h := fun H locs ls hP hD hS hl => lv_ineg X.1 X.2.1 hd  (kk H locs ls hP hD hS hl)
theorem V_land (X : XC E own cc nL ret A p s m args meth c) {x y : Int64} (hd : decode cc pc = .ok (.land, 1)) (kk : V E nL A p l e R s m args below meth c cells slots Q (pc + 1) lv (.long (x &&& y) :: st) h) : V E nL A p l e R s m args below meth c cells slots Q pc lv (.long y :: .long x :: st) h := fun H locs ls hP hD hS hl => lv_land X.1 X.2.1 hd  (kk H locs ls hP hD hS hl)
theorem V_lor (X : XC E own cc nL ret A p s m args meth c) {x y : Int64} (hd : decode cc pc = .ok (.lor, 1)) (kk : V E nL A p l e R s m args below meth c cells slots Q (pc + 1) lv (.long (x ||| y) :: st) h) : V E nL A p l e R s m args below meth c cells slots Q pc lv (.long y :: .long x :: st) h := fun H locs ls hP hD hS hl => lv_lor X.1 X.2.1 hd  (kk H locs ls hP hD hS hl)
theorem V_i2l (X : XC E own cc nL ret A p s m args meth c) {x : Int32} (hd : decode cc pc = .ok (.i2l, 1)) (kk : V E nL A p l e R s m args below meth c cells slots Q (pc + 1) lv (.long x.toInt64 :: st) h) : V E nL A p l e R s m args below meth c cells slots Q pc lv (.int x :: st) h := fun H locs ls hP hD hS hl => lv_i2l X.1 X.2.1 hd rfl (kk H locs ls hP hD hS hl)
theorem V_l2i (X : XC E own cc nL ret A p s m args meth c) {x : Int64} (hd : decode cc pc = .ok (.l2i, 1)) (kk : V E nL A p l e R s m args below meth c cells slots Q (pc + 1) lv (.int x.toInt32 :: st) h) : V E nL A p l e R s m args below meth c cells slots Q pc lv (.long x :: st) h := fun H locs ls hP hD hS hl => lv_l2i X.1 X.2.1 hd rfl (kk H locs ls hP hD hS hl)
theorem V_i2c (X : XC E own cc nL ret A p s m args meth c) {x : Int32} (hd : decode cc pc = .ok (.i2c, 1)) (kk : V E nL A p l e R s m args below meth c cells slots Q (pc + 1) lv (.int (x.toUInt32 % 65536).toInt32 :: st) h) : V E nL A p l e R s m args below meth c cells slots Q pc lv (.int x :: st) h := fun H locs ls hP hD hS hl => lv_i2c X.1 X.2.1 hd rfl (kk H locs ls hP hD hS hl)
theorem V_lushr (X : XC E own cc nL ret A p s m args meth c) {x : Int64} {y : Int32} (hd : decode cc pc = .ok (.lushr, 1)) (kk : V E nL A p l e R s m args below meth c cells slots Q (pc + 1) lv (.long (x.toUInt64 >>> (y.toInt64.toUInt64 &&& Int64.toUInt64 63)).toInt64 :: st) h) : V E nL A p l e R s m args below meth c cells slots Q pc lv (.int y :: .long x :: st) h := fun H locs ls hP hD hS hl => lv_lushr X.1 X.2.1 hd rfl (kk H locs ls hP hD hS hl)
theorem V_lshl (X : XC E own cc nL ret A p s m args meth c) {x : Int64} {y : Int32} (hd : decode cc pc = .ok (.lshl, 1)) (kk : V E nL A p l e R s m args below meth c cells slots Q (pc + 1) lv (.long (x <<< (y.toInt64 &&& 63)) :: st) h) : V E nL A p l e R s m args below meth c cells slots Q pc lv (.int y :: .long x :: st) h := fun H locs ls hP hD hS hl => lv_lshl X.1 X.2.1 hd rfl (kk H locs ls hP hD hS hl)
theorem V_lcmp (X : XC E own cc nL ret A p s m args meth c) {x y : Int64} (hd : decode cc pc = .ok (.lcmp, 1)) (kk : V E nL A p l e R s m args below meth c cells slots Q (pc + 1) lv (.int (lg_cmp x y) :: st) h) : V E nL A p l e R s m args below meth c cells slots Q pc lv (.long y :: .long x :: st) h := fun H locs ls hP hD hS hl => W.lcmp X.1 X.2.1 hd  (kk H locs ls hP hD hS hl)
theorem V_dup (X : XC E own cc nL ret A p s m args meth c) {va : Value} (hva : va.category = 1) (hd : decode cc pc = .ok (.dup, 1)) (kk : V E nL A p l e R s m args below meth c cells slots Q (pc + 1) lv (va :: va :: st) h) : V E nL A p l e R s m args below meth c cells slots Q pc lv (va :: st) h := fun H locs ls hP hD hS hl => lv_dup X.1 X.2.1 hd hva (kk H locs ls hP hD hS hl)
theorem V_dup2 (X : XC E own cc nL ret A p s m args meth c) {va vb : Value} (hva : va.category = 1) (hvb : vb.category = 1) (hd : decode cc pc = .ok (.dup2, 1)) (kk : V E nL A p l e R s m args below meth c cells slots Q (pc + 1) lv (va :: vb :: va :: vb :: st) h) : V E nL A p l e R s m args below meth c cells slots Q pc lv (va :: vb :: st) h := fun H locs ls hP hD hS hl => lv_dup2_11 X.1 X.2.1 hd hva hvb (kk H locs ls hP hD hS hl)
theorem V_pop (X : XC E own cc nL ret A p s m args meth c) {va : Value} (hva : va.category = 1) (hd : decode cc pc = .ok (.pop, 1)) (kk : V E nL A p l e R s m args below meth c cells slots Q (pc + 1) lv st h) : V E nL A p l e R s m args below meth c cells slots Q pc lv (va :: st) h := fun H locs ls hP hD hS hl => lv_pop X.1 X.2.1 hd hva (kk H locs ls hP hD hS hl)
theorem V_if_eq (X : XC E own cc nL ret A p s m args meth c) {x : Int32} {off : Int} {tgt : Nat} (ht : (pc : Int) + off = (tgt : Int)) (hd : decode cc pc = .ok (.ifCond .eq off, 3)) (kk0 : (x = 0) → V E nL A p l e R s m args below meth c cells slots Q tgt lv st h) (kk1 : (¬ x = 0) → V E nL A p l e R s m args below meth c cells slots Q (pc + 3) lv st h) : V E nL A p l e R s m args below meth c cells slots Q pc lv (.int x :: st) h := fun H locs ls hP hD hS hl => lv_if_eq X.1 X.2.1 hd ht (fun q => kk0 q H locs ls hP hD hS hl) (fun q => kk1 q H locs ls hP hD hS hl)
theorem V_icmp_eq (X : XC E own cc nL ret A p s m args meth c) {x y : Int32} {off : Int} {tgt : Nat} (ht : (pc : Int) + off = (tgt : Int)) (hd : decode cc pc = .ok (.if_icmp .eq off, 3)) (kk0 : (x = y) → V E nL A p l e R s m args below meth c cells slots Q tgt lv st h) (kk1 : (¬ x = y) → V E nL A p l e R s m args below meth c cells slots Q (pc + 3) lv st h) : V E nL A p l e R s m args below meth c cells slots Q pc lv (.int y :: .int x :: st) h := fun H locs ls hP hD hS hl => lv_icmp_eq X.1 X.2.1 hd ht (fun q => kk0 q H locs ls hP hD hS hl) (fun q => kk1 q H locs ls hP hD hS hl)
theorem V_if_ne (X : XC E own cc nL ret A p s m args meth c) {x : Int32} {off : Int} {tgt : Nat} (ht : (pc : Int) + off = (tgt : Int)) (hd : decode cc pc = .ok (.ifCond .ne off, 3)) (kk0 : (¬ x = 0) → V E nL A p l e R s m args below meth c cells slots Q tgt lv st h) (kk1 : (x = 0) → V E nL A p l e R s m args below meth c cells slots Q (pc + 3) lv st h) : V E nL A p l e R s m args below meth c cells slots Q pc lv (.int x :: st) h := fun H locs ls hP hD hS hl => lv_if_ne X.1 X.2.1 hd ht (fun q => kk0 q H locs ls hP hD hS hl) (fun q => kk1 q H locs ls hP hD hS hl)
theorem V_icmp_ne (X : XC E own cc nL ret A p s m args meth c) {x y : Int32} {off : Int} {tgt : Nat} (ht : (pc : Int) + off = (tgt : Int)) (hd : decode cc pc = .ok (.if_icmp .ne off, 3)) (kk0 : (¬ x = y) → V E nL A p l e R s m args below meth c cells slots Q tgt lv st h) (kk1 : (x = y) → V E nL A p l e R s m args below meth c cells slots Q (pc + 3) lv st h) : V E nL A p l e R s m args below meth c cells slots Q pc lv (.int y :: .int x :: st) h := fun H locs ls hP hD hS hl => lv_icmp_ne X.1 X.2.1 hd ht (fun q => kk0 q H locs ls hP hD hS hl) (fun q => kk1 q H locs ls hP hD hS hl)
theorem V_if_lt (X : XC E own cc nL ret A p s m args meth c) {x : Int32} {off : Int} {tgt : Nat} (ht : (pc : Int) + off = (tgt : Int)) (hd : decode cc pc = .ok (.ifCond .lt off, 3)) (kk0 : (x < 0) → V E nL A p l e R s m args below meth c cells slots Q tgt lv st h) (kk1 : (¬ x < 0) → V E nL A p l e R s m args below meth c cells slots Q (pc + 3) lv st h) : V E nL A p l e R s m args below meth c cells slots Q pc lv (.int x :: st) h := fun H locs ls hP hD hS hl => lv_if_lt X.1 X.2.1 hd ht (fun q => kk0 q H locs ls hP hD hS hl) (fun q => kk1 q H locs ls hP hD hS hl)
theorem V_icmp_lt (X : XC E own cc nL ret A p s m args meth c) {x y : Int32} {off : Int} {tgt : Nat} (ht : (pc : Int) + off = (tgt : Int)) (hd : decode cc pc = .ok (.if_icmp .lt off, 3)) (kk0 : (x < y) → V E nL A p l e R s m args below meth c cells slots Q tgt lv st h) (kk1 : (¬ x < y) → V E nL A p l e R s m args below meth c cells slots Q (pc + 3) lv st h) : V E nL A p l e R s m args below meth c cells slots Q pc lv (.int y :: .int x :: st) h := fun H locs ls hP hD hS hl => lv_icmp_lt X.1 X.2.1 hd ht (fun q => kk0 q H locs ls hP hD hS hl) (fun q => kk1 q H locs ls hP hD hS hl)
theorem V_if_ge (X : XC E own cc nL ret A p s m args meth c) {x : Int32} {off : Int} {tgt : Nat} (ht : (pc : Int) + off = (tgt : Int)) (hd : decode cc pc = .ok (.ifCond .ge off, 3)) (kk0 : (0 ≤ x) → V E nL A p l e R s m args below meth c cells slots Q tgt lv st h) (kk1 : (¬ 0 ≤ x) → V E nL A p l e R s m args below meth c cells slots Q (pc + 3) lv st h) : V E nL A p l e R s m args below meth c cells slots Q pc lv (.int x :: st) h := fun H locs ls hP hD hS hl => lv_if_ge X.1 X.2.1 hd ht (fun q => kk0 q H locs ls hP hD hS hl) (fun q => kk1 q H locs ls hP hD hS hl)
theorem V_icmp_ge (X : XC E own cc nL ret A p s m args meth c) {x y : Int32} {off : Int} {tgt : Nat} (ht : (pc : Int) + off = (tgt : Int)) (hd : decode cc pc = .ok (.if_icmp .ge off, 3)) (kk0 : (y ≤ x) → V E nL A p l e R s m args below meth c cells slots Q tgt lv st h) (kk1 : (¬ y ≤ x) → V E nL A p l e R s m args below meth c cells slots Q (pc + 3) lv st h) : V E nL A p l e R s m args below meth c cells slots Q pc lv (.int y :: .int x :: st) h := fun H locs ls hP hD hS hl => lv_icmp_ge X.1 X.2.1 hd ht (fun q => kk0 q H locs ls hP hD hS hl) (fun q => kk1 q H locs ls hP hD hS hl)
theorem V_if_gt (X : XC E own cc nL ret A p s m args meth c) {x : Int32} {off : Int} {tgt : Nat} (ht : (pc : Int) + off = (tgt : Int)) (hd : decode cc pc = .ok (.ifCond .gt off, 3)) (kk0 : (0 < x) → V E nL A p l e R s m args below meth c cells slots Q tgt lv st h) (kk1 : (¬ 0 < x) → V E nL A p l e R s m args below meth c cells slots Q (pc + 3) lv st h) : V E nL A p l e R s m args below meth c cells slots Q pc lv (.int x :: st) h := fun H locs ls hP hD hS hl => lv_if_gt X.1 X.2.1 hd ht (fun q => kk0 q H locs ls hP hD hS hl) (fun q => kk1 q H locs ls hP hD hS hl)
theorem V_icmp_gt (X : XC E own cc nL ret A p s m args meth c) {x y : Int32} {off : Int} {tgt : Nat} (ht : (pc : Int) + off = (tgt : Int)) (hd : decode cc pc = .ok (.if_icmp .gt off, 3)) (kk0 : (y < x) → V E nL A p l e R s m args below meth c cells slots Q tgt lv st h) (kk1 : (¬ y < x) → V E nL A p l e R s m args below meth c cells slots Q (pc + 3) lv st h) : V E nL A p l e R s m args below meth c cells slots Q pc lv (.int y :: .int x :: st) h := fun H locs ls hP hD hS hl => lv_icmp_gt X.1 X.2.1 hd ht (fun q => kk0 q H locs ls hP hD hS hl) (fun q => kk1 q H locs ls hP hD hS hl)
theorem V_if_le (X : XC E own cc nL ret A p s m args meth c) {x : Int32} {off : Int} {tgt : Nat} (ht : (pc : Int) + off = (tgt : Int)) (hd : decode cc pc = .ok (.ifCond .le off, 3)) (kk0 : (x ≤ 0) → V E nL A p l e R s m args below meth c cells slots Q tgt lv st h) (kk1 : (¬ x ≤ 0) → V E nL A p l e R s m args below meth c cells slots Q (pc + 3) lv st h) : V E nL A p l e R s m args below meth c cells slots Q pc lv (.int x :: st) h := fun H locs ls hP hD hS hl => lv_if_le X.1 X.2.1 hd ht (fun q => kk0 q H locs ls hP hD hS hl) (fun q => kk1 q H locs ls hP hD hS hl)
theorem V_icmp_le (X : XC E own cc nL ret A p s m args meth c) {x y : Int32} {off : Int} {tgt : Nat} (ht : (pc : Int) + off = (tgt : Int)) (hd : decode cc pc = .ok (.if_icmp .le off, 3)) (kk0 : (x ≤ y) → V E nL A p l e R s m args below meth c cells slots Q tgt lv st h) (kk1 : (¬ x ≤ y) → V E nL A p l e R s m args below meth c cells slots Q (pc + 3) lv st h) : V E nL A p l e R s m args below meth c cells slots Q pc lv (.int y :: .int x :: st) h := fun H locs ls hP hD hS hl => lv_icmp_le X.1 X.2.1 hd ht (fun q => kk0 q H locs ls hP hD hS hl) (fun q => kk1 q H locs ls hP hD hS hl)
theorem V_goto (X : XC E own cc nL ret A p s m args meth c) {off : Int} {tgt : Nat} (ht : (pc : Int) + off = (tgt : Int)) (hd : decode cc pc = .ok (.goto off, 3)) (kk : V E nL A p l e R s m args below meth c cells slots Q tgt lv st h) : V E nL A p l e R s m args below meth c cells slots Q pc lv st h := fun H locs ls hP hD hS hl => lv_goto X.1 X.2.1 hd ht (kk H locs ls hP hD hS hl)
theorem V_sub (ks : List Nat) (hk : lv_pick lv ks = lv') (kk : V E nL A p l e R s m args below meth c cells slots Q pc lv' st h) : V E nL A p l e R s m args below meth c cells slots Q pc lv st h := fun H locs ls hP hD hS hl => kk H locs ls hP hD hS (lv_sub hl ks hk)
theorem V_ldc (X : XC E own cc nL ret A p s m args meth c) {index : Nat} {v : Int32} (hc : Jvm.Cond.constant own index v ∈ LW) (hd : decode cc pc = .ok (.ldc index, 2)) (kk : V E nL A p l e R s m args below meth c cells slots Q (pc + 2) lv (.int v :: st) h) : V E nL A p l e R s m args below meth c cells slots Q pc lv st h := fun H locs ls hP hD hS hl => lv_ldc X.1 X.2.1 X.2.2.2.2.1 (X.2.2.2.2.2.1 _ hc) hd (kk H locs ls hP hD hS hl)
theorem V_ldc2 (X : XC E own cc nL ret A p s m args meth c) {index : Nat} {v : Int64} (hc : Jvm.Cond.constantLong own index v ∈ LW) (hd : decode cc pc = .ok (.ldc2_w index, 3)) (kk : V E nL A p l e R s m args below meth c cells slots Q (pc + 3) lv (.long v :: st) h) : V E nL A p l e R s m args below meth c cells slots Q pc lv st h := fun H locs ls hP hD hS hl => lv_ldc2 X.1 X.2.1 X.2.2.2.2.1 (X.2.2.2.2.2.1 _ hc) hd (kk H locs ls hP hD hS hl)
theorem V_table (X : XC E own cc nL ret A p s m args meth c) {x : Int32} {dflt lo hi off : Int} {offs : Array Int} {len tgt : Nat} (hs : tsel x dflt lo hi offs = off) (ht : (pc : Int) + off = (tgt : Int)) (hz : lo + offs.size = hi + 1) (hd : decode cc pc = .ok (.tableswitch dflt lo hi offs, len)) (kk : V E nL A p l e R s m args below meth c cells slots Q tgt lv st h) : V E nL A p l e R s m args below meth c cells slots Q pc lv (.int x :: st) h := fun H locs ls hP hD hS hl => by
  by_cases q : x.toInt < lo ∨ hi < x.toInt
  · unfold tsel at hs
    rw [if_pos q] at hs
    exact lv_tableOut X.1 X.2.1 hd q (by rw [hs]; exact ht) (kk H locs ls hP hD hS hl)
  · unfold tsel at hs
    rw [if_neg q] at hs
    have hlt : (x.toInt - lo).toNat < offs.size := by omega
    rw [Array.getElem?_eq_getElem hlt] at hs
    exact lv_tableIn X.1 X.2.1 hd (by omega) (by omega) (Array.getElem?_eq_getElem hlt) (by rw [← hs] at ht; exact ht) (kk H locs ls hP hD hS hl)
theorem V_lookup (X : XC E own cc nL ret A p s m args meth c) {x : Int32} {dflt off : Int} {ps : Array (Int × Int)} {len tgt : Nat} (hp : (ps.toList.zip (ps.toList.drop 1)).all (fun (a, next) => a.1 < next.1) = true) (hs : Op.lookupswitch.offset ps.toList dflt x.toInt = off) (ht : (pc : Int) + off = (tgt : Int)) (hd : decode cc pc = .ok (.lookupswitch dflt ps, len)) (kk : V E nL A p l e R s m args below meth c cells slots Q tgt lv st h) : V E nL A p l e R s m args below meth c cells slots Q pc lv (.int x :: st) h := fun H locs ls hP hD hS hl => lv_lookup X.1 X.2.1 hd hp hs ht (kk H locs ls hP hD hS hl)
theorem V_iald (X : XC E own cc nL ret A p s m args meth c) {k n : Nat} {i : Int32} (hA : AR E k (eI E) n) (hin : inB i n = true) (hd : decode cc pc = .ok (.iaload, 1)) (kk : V E nL A p l e R s m args below meth c cells slots Q (pc + 1) lv (.int (h k i.toNatClampNeg) :: st) h) : V E nL A p l e R s m args below meth c cells slots Q pc lv (.int i :: .ref (eA E k) :: st) h := fun H locs ls hP hD hS hl => va_iald X.1 X.2.1 X.2.2.2.2.2.2.2.1.1 hP k 0 (hA.1 h) rfl (inB_in hin) hd (kk H locs ls hP hD hS hl)
theorem V_zald (X : XC E own cc nL ret A p s m args meth c) {k n : Nat} {i : Int32} (hA : AR E k (eZ E) n) (hin : inB i n = true) (hd : decode cc pc = .ok (.baload, 1)) (kk : V E nL A p l e R s m args below meth c cells slots Q (pc + 1) lv (.int (h k i.toNatClampNeg) :: st) h) : V E nL A p l e R s m args below meth c cells slots Q pc lv (.int i :: .ref (eA E k) :: st) h := fun H locs ls hP hD hS hl => va_zald X.1 X.2.1 X.2.2.2.2.2.2.2.1.1 hP k 1 (hA.1 h) rfl (inB_in hin) hd (kk H locs ls hP hD hS hl)
theorem V_cald (X : XC E own cc nL ret A p s m args meth c) {k n : Nat} {i : Int32} (hA : AR E k (eC E) n) (hin : inB i n = true) (hd : decode cc pc = .ok (.caload, 1)) (kk : V E nL A p l e R s m args below meth c cells slots Q (pc + 1) lv (.int (h k i.toNatClampNeg) :: st) h) : V E nL A p l e R s m args below meth c cells slots Q pc lv (.int i :: .ref (eA E k) :: st) h := fun H locs ls hP hD hS hl => va_cald X.1 X.2.1 X.2.2.2.2.2.2.2.1.1 hP k 2 (hA.1 h) rfl (inB_in hin) hd (kk H locs ls hP hD hS hl)
theorem V_iast (X : XC E own cc nL ret A p s m args meth c) {k n : Nat} {i x : Int32} (hA : AR E k (eI E) n) (hin : inB i n = true) (hd : decode cc pc = .ok (.iastore, 1)) (kk : V E nL A p l e R s m args below meth c cells slots Q (pc + 1) lv st (hu h k i.toNatClampNeg x)) : V E nL A p l e R s m args below meth c cells slots Q pc lv (.int x :: .int i :: .ref (eA E k) :: st) h := fun H locs ls hP hD hS hl => va_iast X.1 X.2.1 X.2.2.2.2.2.2.2.1.1 hP hD hS k 0 (hA.1 h) rfl (inB_in hin) hd (fun H1 locs1 hP1 hD1 hS1 => by
  rw [hA.2] at hP1 hD1
  exact kk H1 locs1 ls hP1 hD1 hS1 hl)
theorem V_zast (X : XC E own cc nL ret A p s m args meth c) {k n : Nat} {i x : Int32} (hA : AR E k (eZ E) n) (hin : inB i n = true) (hd : decode cc pc = .ok (.bastore, 1)) (kk : V E nL A p l e R s m args below meth c cells slots Q (pc + 1) lv st (hu h k i.toNatClampNeg (vp_nar .boolean x))) : V E nL A p l e R s m args below meth c cells slots Q pc lv (.int x :: .int i :: .ref (eA E k) :: st) h := fun H locs ls hP hD hS hl => va_zast X.1 X.2.1 X.2.2.2.2.2.2.2.1.1 hP hD hS k 1 (hA.1 h) rfl (inB_in hin) hd (fun H1 locs1 hP1 hD1 hS1 => by
  rw [hA.2] at hP1 hD1
  exact kk H1 locs1 ls hP1 hD1 hS1 hl)
theorem V_cast (X : XC E own cc nL ret A p s m args meth c) {k n : Nat} {i x : Int32} (hA : AR E k (eC E) n) (hin : inB i n = true) (hd : decode cc pc = .ok (.castore, 1)) (kk : V E nL A p l e R s m args below meth c cells slots Q (pc + 1) lv st (hu h k i.toNatClampNeg (vp_nar .char x))) : V E nL A p l e R s m args below meth c cells slots Q pc lv (.int x :: .int i :: .ref (eA E k) :: st) h := fun H locs ls hP hD hS hl => va_cast X.1 X.2.1 X.2.2.2.2.2.2.2.1.1 hP hD hS k 2 (hA.1 h) rfl (inB_in hin) hd (fun H1 locs1 hP1 hD1 hS1 => by
  rw [hA.2] at hP1 hD1
  exact kk H1 locs1 ls hP1 hD1 hS1 hl)
theorem V_alen (X : XC E own cc nL ret A p s m args meth c) {k n j : Nat} {cy : ClassId} {ty : FieldType} {v : Int32} (hA : AR E k cy n) (hj : (tys E)[j]? = some (cy, ty)) (hv : Int32.ofNat n = v) (hd : decode cc pc = .ok (.arraylength, 1)) (kk : V E nL A p l e R s m args below meth c cells slots Q (pc + 1) lv (.int v :: st) h) : V E nL A p l e R s m args below meth c cells slots Q pc lv (.ref (eA E k) :: st) h := fun H locs ls hP hD hS hl => va_alen X.1 X.2.1 X.2.2.2.2.2.2.2.1.1 hP k j (hA.1 h) hj hv hd (kk H locs ls hP hD hS hl)
theorem V_get (X : XC E own cc nL ret A p s m args meth c) {k ci index N j : Nat} {T : u_T} {fs : List Value} {v : Value} (hin : ∀ w ∈ u_ws own T N, w ∈ LW) (he : (wld E h)[k]? = some (eA E k, .inr (ci, fs))) (hc : vwCl[ci]? = some (own, T, N)) (hj : j < N) (hT : (T j).1 = own) (hlink : Cond.fieldLink own index own (T j).2.1 (T j).2.2.1 ∈ LW) (hv : fs[j]? = some v) (hd : decode cc pc = .ok (.getfield index, 3)) (kk : V E nL A p l e R s m args below meth c cells slots Q (pc + 3) lv (v :: st) h) : V E nL A p l e R s m args below meth c cells slots Q pc lv (.ref (eA E k) :: st) h := fun H locs ls hP hD hS hl => va_get (ref := own) X.1 X.2.1 X.2.2.2.2.2.1 hin X.2.2.2.2.1 X.2.2.2.2.2.2.2.1.1 hP k he hc j hj (X.2.2.2.2.2.1 _ hlink) (fun x hx => by rw [hT] at hx; exact hx) hv hd (kk H locs ls hP hD hS hl)
theorem V_puti (X : XC E own cc nL ret A p s m args meth c) {k ci index N j : Nat} {T : u_T} {fs : Hp → List Value} {x : Int32} {ty : FieldType} (ty0 : Nat → FieldType) (hF : FI E k ci fs j) (hin : ∀ w ∈ u_ws own T N, w ∈ LW) (hty : ∀ k, k < N → parseFieldDescriptor (T k).2.2.1 = some (ty0 k)) (hnm : ∀ a, a < N → ∀ b, b < N → a ≠ b → (T a).2.1 ≠ (T b).2.1) (hc : vwCl[ci]? = some (own, T, N)) (hj : j < N) (hT : (T j).1 = own) (hfin : (T j).2.2.2 = false) (hlink : Cond.fieldLink own index own (T j).2.1 (T j).2.2.1 ∈ LW) (hd0 : parseFieldDescriptor (T j).2.2.1 = some ty) (hn : narrow ty (.int x) = .int x) (hfit : fits ty (.int x) = true) (hd : decode cc pc = .ok (.putfield index, 3)) (kk : V E nL A p l e R s m args below meth c cells slots Q (pc + 3) lv st (hu h k j x)) : V E nL A p l e R s m args below meth c cells slots Q pc lv (.int x :: .ref (eA E k) :: st) h := fun H locs ls hP hD hS hl => va_put (ref := own) X.1 X.2.1 X.2.2.2.2.2.1 hin ty0 hty hnm X.2.2.2.2.1 X.2.2.2.2.2.2.2.1.1 hP hD hS k (hF.1 h) hc j hj (X.2.2.2.2.2.1 _ hlink) (fun x hx => by rw [hT] at hx; exact hx) hfin hd0 hn hfit (List.getElem?_eq_some_iff.mp (hF.2.1 h)).1 hd (fun H1 locs1 hP1 hD1 hS1 => by
  rw [hF.2.2] at hP1 hD1
  exact kk H1 locs1 ls hP1 hD1 hS1 hl)
theorem V_copyi (X : XC E own cc nL ret A p s m args meth c) {index k0 k1 n0 n1 : Nat} {sp dp n : Int32} (hA0 : AR E k0 (eI E) n0) (hA1 : AR E k1 (eI E) n1) (hlink : Cond.methodLink own index arraycopyName ∈ LW) (hnat : Cond.native arraycopyName ∈ LW) (hstat : Cond.static arraycopyName ∈ LW) (hini : Cond.initialized "java/lang/System" ∈ LW) (g1 : ¬ sp < 0) (g2 : ¬ dp < 0) (g3 : ¬ n < 0) (g4 : sp.toNatClampNeg + n.toNatClampNeg ≤ n0) (g5 : dp.toNatClampNeg + n.toNatClampNeg ≤ n1) (hfr : 1 ≤ R.frames) (hlo : (st.map fun v => v.category).sum + (nativeFrameWords "java/lang/System" "arraycopy" 5 + 11) ≤ R.locals) (hd : decode cc pc = .ok (.invokestatic index, 3)) (kk : V E nL A p l e R s m args below meth c cells slots Q (pc + 3) lv st (hf h k1 (va_cpy (h k0) (h k1) sp.toNatClampNeg dp.toNatClampNeg n.toNatClampNeg))) : V E nL A p l e R s m args below meth c cells slots Q pc lv (.int n :: .int dp :: .ref (eA E k1) :: .int sp :: .ref (eA E k0) :: st) h := fun H locs ls hP hD hS hl => va_copyi X.1 X.2.1 (X.2.2.2.1.trans hl.1.symm) X.2.2.2.2.1 (X.2.2.2.2.2.1 _ hlink) (X.2.2.2.2.2.1 _ hnat) (X.2.2.2.2.2.1 _ hstat) (X.2.2.2.2.2.1 _ hini) X.2.2.2.2.2.2.2.1.1 hP hD hS k0 k1 0 0 (hA0.1 h) (hA1.1 h) rfl rfl rfl g1 g2 g3 g4 g5 (fun _ _ => rfl) hfr hlo hd (fun H1 locs1 hP1 hD1 hS1 => by
  rw [hA1.2] at hP1 hD1
  exact kk H1 locs1 ls hP1 hD1 hS1 hl)
theorem V_mmin (X : XC E own cc nL ret A p s m args meth c) {index : Nat} {x y : Int32} (hlink : Cond.methodLink own index Lib.Math.min.name ∈ LW) (hstat : Cond.static Lib.Math.min.name ∈ LW) (hini : Cond.initialized "java/lang/Math" ∈ LW) (hcode : Cond.code Lib.Math.min.name Lib.Math.min.code 2 (some .int) ∈ LW) (hfr : 1 ≤ R.frames) (hlo : (st.map fun v => v.category).sum + 13 ≤ R.locals) (hcs : cells ≤ R.cells ∧ slots ≤ R.slots) (hd : decode cc pc = .ok (.invokestatic index, 3)) (kk : V E nL A p l e R s m args below meth c cells slots Q (pc + 3) lv (.int (if y < x then y else x) :: st) h) : V E nL A p l e R s m args below meth c cells slots Q pc lv (.int y :: .int x :: st) h := fun H locs ls hP hD hS hl => va_mmin X.1 X.2.1 (X.2.2.2.1.trans hl.1.symm) X.2.2.2.2.1 (X.2.2.2.2.2.1 _ hlink) (X.2.2.2.2.2.1 _ hstat) (X.2.2.2.2.2.1 _ hini) (X.2.2.2.2.2.1 _ hcode) hfr hlo hcs.1 hcs.2 hd (kk H locs ls hP hD hS hl)
theorem V_mmax (X : XC E own cc nL ret A p s m args meth c) {index : Nat} {x y : Int32} (hlink : Cond.methodLink own index Lib.Math.max.name ∈ LW) (hstat : Cond.static Lib.Math.max.name ∈ LW) (hini : Cond.initialized "java/lang/Math" ∈ LW) (hcode : Cond.code Lib.Math.max.name Lib.Math.max.code 2 (some .int) ∈ LW) (hfr : 1 ≤ R.frames) (hlo : (st.map fun v => v.category).sum + 13 ≤ R.locals) (hcs : cells ≤ R.cells ∧ slots ≤ R.slots) (hd : decode cc pc = .ok (.invokestatic index, 3)) (kk : V E nL A p l e R s m args below meth c cells slots Q (pc + 3) lv (.int (if x < y then y else x) :: st) h) : V E nL A p l e R s m args below meth c cells slots Q pc lv (.int y :: .int x :: st) h := fun H locs ls hP hD hS hl => va_mmax X.1 X.2.1 (X.2.2.2.1.trans hl.1.symm) X.2.2.2.2.1 (X.2.2.2.2.2.1 _ hlink) (X.2.2.2.2.2.1 _ hstat) (X.2.2.2.2.2.1 _ hini) (X.2.2.2.2.2.1 _ hcode) hfr hlo hcs.1 hcs.2 hd (kk H locs ls hP hD hS hl)
theorem V_gsw (X : XC E own cc nL ret A p s m args meth c) {index : Nat} (hlink : Cond.fieldLink own index RX1 "SWEEP_ORDER" "[I" ∈ LW) (hd : decode cc pc = .ok (.getstatic index, 3)) (kk : V E nL A p l e R s m args below meth c cells slots Q (pc + 3) lv (.ref (eT E) :: st) h) : V E nL A p l e R s m args below meth c cells slots Q pc lv st h := fun H locs ls hP hD hS hl => va_gets (ref := RX1) X.1 X.2.1 X.2.2.2.2.2.2.2.1.2.2.1 hS X.2.2.2.2.1 (X.2.2.2.2.2.1 _ hlink) (fun _ q => q) hd (kk H locs ls hP hD hS hl)
theorem V_tlen (X : XC E own cc nL ret A p s m args meth c) (hd : decode cc pc = .ok (.arraylength, 1)) (kk : V E nL A p l e R s m args below meth c cells slots Q (pc + 1) lv (.int 4 :: st) h) : V E nL A p l e R s m args below meth c cells slots Q pc lv (.ref (eT E) :: st) h := fun H locs ls hP hD hS hl => va_tlen X.1 X.2.1 X.2.2.2.2.2.2.2.1.2.2.2.1 hS (by decide) hd (kk H locs ls hP hD hS hl)
theorem V_tiald (X : XC E own cc nL ret A p s m args meth c) {i : Int32} (hin : inB i 4 = true) (hd : decode cc pc = .ok (.iaload, 1)) (kk : V E nL A p l e R s m args below meth c cells slots Q (pc + 1) lv (.int (swo.getD i.toNatClampNeg 0) :: st) h) : V E nL A p l e R s m args below meth c cells slots Q pc lv (.int i :: .ref (eT E) :: st) h := fun H locs ls hP hD hS hl => va_ti X.1 X.2.1 X.2.2.2.2.2.2.2.1.2.2.2.1 hS (inB_in hin) rfl hd (kk H locs ls hP hD hS hl)
/-- what is said of a method by name: its code is known, where it is called from -/
def YS (y : MethodName) (cc : ByteArray) (nL : Nat) (ret : Option FieldType) (n : Nat) : Prop := Cond.code y cc nL ret ∈ LW ∧ Cond.initialized y.cls ∈ LW ∧ (y.cls ≠ "java/lang/invoke/MethodHandle" ∧ y.cls ≠ "java/lang/invoke/VarHandle" ∧ (parseMethodDescriptor y.desc).map (fun d => d.parameters.length) = some n)
theorem LW_goodC {y : MethodName} {cc : ByteArray} {nL : Nat} {ret : Option FieldType} (h : Cond.code y cc nL ret ∈ LW) : GoodIn LW (.code y cc nL ret :: LW) := fun w hw => (List.mem_cons.mp hw).elim (fun q => LW_good w (q ▸ h)) (LW_good w)
theorem PreS_of (X : XC E own cc nL ret A p s m args meth c) {H : Heap} {locs : List Loc} {As : List Value} (hP : va_P (eD E) vwCl (wld E h) H) (hD : va_D A (wld E h)) (hS : va_S A s.heap H locs) (hAA : ∀ q, va_A (wld E h) H.size q → A q) : PreS s H (Pre E h H.size As) As := ⟨fun a U g mk q => ⟨q.1, q.2.1, q.2.2.1, CP.blind g mk q.2.2.2.1, q.2.2.2.2⟩, fun U hU hW => ⟨rfl, by rw [hU], by rw [hU]; exact hP, CP.warm (H0 := H) X.2.2.2.2.2.2.2.1 hW (by rw [hU]; exact hS) hAA, hD.weaken (fun _ _ _ _ => trivial)⟩⟩
theorem V_AA (X : XC E own cc nL ret A p s m args meth c) {H : Heap} {locs : List Loc} (hD : va_D A (wld E h)) (hS : va_S A s.heap H locs) : ∀ q, va_A (wld E h) H.size q → A q := by
  intro q hq
  rcases hq with ⟨k, e, hk⟩ | hq
  · exact hD.2 k (q, e) hk
  · exact X.2.2.2.2.2.2.2.2 q (Nat.le_trans hS.1 hq)
theorem wld_addr {i : Nat} {a : Nat} {e : va_E} (hk : (wld E h)[i]? = some (a, e)) : ∃ e' : va_E, (wld E h')[i]? = some (a, e') := by
  match i with
  | 0 => cases hk; exact ⟨_, rfl⟩
  | 1 => cases hk; exact ⟨_, rfl⟩
  | 2 => cases hk; exact ⟨_, rfl⟩
  | 3 => cases hk; exact ⟨_, rfl⟩
  | 4 => cases hk; exact ⟨_, rfl⟩
  | 5 => cases hk; exact ⟨_, rfl⟩
  | 6 => cases hk; exact ⟨_, rfl⟩
  | 7 => cases hk; exact ⟨_, rfl⟩
  | 8 => cases hk; exact ⟨_, rfl⟩
  | 9 => cases hk; exact ⟨_, rfl⟩
  | 10 => cases hk; exact ⟨_, rfl⟩
  | 11 => cases hk; exact ⟨_, rfl⟩
  | 12 => cases hk; exact ⟨_, rfl⟩
  | 13 => cases hk; exact ⟨_, rfl⟩
  | 14 => cases hk; exact ⟨_, rfl⟩
  | 15 => cases hk; exact ⟨_, rfl⟩
  | 16 => cases hk; exact ⟨_, rfl⟩
  | 17 => cases hk; exact ⟨_, rfl⟩
  | 18 => cases hk; exact ⟨_, rfl⟩
  | 19 => cases hk; exact ⟨_, rfl⟩
  | 20 => cases hk; exact ⟨_, rfl⟩
  | 21 => cases hk; exact ⟨_, rfl⟩
  | i + 22 => simp [wld] at hk
theorem wld_A {sz q : Nat} (hq : va_A (wld E h') sz q) : va_A (wld E h) sz q := by
  rcases hq with ⟨k, e, hk⟩ | hq
  · obtain ⟨e2, h2⟩ := wld_addr (h' := h) hk
    exact Or.inl ⟨k, e2, h2⟩
  · exact Or.inr hq
theorem V_callSi (X : XC E own cc nL ret A p s m args meth c) {d maxL index n : Nat} {y : MethodName} {bytes : ByteArray} {ret' : Option FieldType} {host : String} {As : List Value} {r : Int32} {h1 : Hp} {stk : List Value} (hM : SMi l E d y bytes maxL ret' As h r h1) (hY : YS y bytes maxL ret' n) (hw : Cond.static y ∈ LW) (hl0 : Cond.methodLink own index y ∈ LW) (hn : As.length = n) (hstk : As.reverse ++ st = stk) (hR : d + 1 ≤ R.frames ∧ 8 + (maxL + 11) + 40 * d ≤ R.locals) (hcs : cells ≤ R.cells ∧ slots ≤ R.slots) (hst : (st.map fun v => v.category).sum ≤ 8) (hd : decode cc pc = .ok (.invokestatic index, 3)) (kk : V E nL A p l e R s m args below meth c cells slots Q (pc + 3) lv (.int r :: st) h1) : V E nL A p l e R s m args below meth c cells slots Q pc lv stk h := fun H locs ls hP hD hS hl => by
  subst hstk
  have hAA := V_AA X hD hS
  refine va_calli (va_runS (As := As) (rest := st) (mc := 0) (ms := 0) ⟨X.1, X.2.1, X.2.2.2.1, X.2.2.2.2.1, X.2.2.2.2.2.1⟩ (hM H.size) (⟨callB_of n X.2.2.2.2.2.1 (LW_goodC hY.1) rfl (rfl : (rm d).cells = 0) (rfl : (rm d).slots = 0) (X.2.2.2.2.2.1 _ hY.2.1) (X.2.2.2.2.2.1 _ hl0) hY.2.2 hR, X.2.2.2.2.2.1 _ hw⟩) (PreS_of X hP hD hS (V_AA X hD hS)) rfl hn hl.1 rfl (lv_room hst) hd ⟨hcs.1, hcs.2⟩) hS (fun q _ hq => hAA q hq) hAA (fun r1 u t H1 locs1 ht hvm hpost hB hz1 hk1 hS1 => ?_)
  obtain ⟨rfl, rfl⟩ := hpost
  obtain ⟨hP1, hD1⟩ := hB
  rw [ht] at hP1
  exact kk H1 locs1 ls hP1 (hD1.weaken (fun _ q _ hq => hAA q.1 hq)) hS1 hl
theorem V_callSv (X : XC E own cc nL ret A p s m args meth c) {d maxL index n : Nat} {y : MethodName} {bytes : ByteArray} {ret' : Option FieldType} {host : String} {As : List Value} {r : Int32} {h1 : Hp} {stk : List Value} (hM : SMv l E d y bytes maxL As h h1) (hY : YS y bytes maxL none n) (hw : Cond.static y ∈ LW) (hl0 : Cond.methodLink own index y ∈ LW) (hn : As.length = n) (hstk : As.reverse ++ st = stk) (hR : d + 1 ≤ R.frames ∧ 8 + (maxL + 11) + 40 * d ≤ R.locals) (hcs : cells ≤ R.cells ∧ slots ≤ R.slots) (hst : (st.map fun v => v.category).sum ≤ 8) (hd : decode cc pc = .ok (.invokestatic index, 3)) (kk : V E nL A p l e R s m args below meth c cells slots Q (pc + 3) lv st h1) : V E nL A p l e R s m args below meth c cells slots Q pc lv stk h := fun H locs ls hP hD hS hl => by
  subst hstk
  have hAA := V_AA X hD hS
  refine va_callv (va_runS (As := As) (rest := st) (mc := 0) (ms := 0) ⟨X.1, X.2.1, X.2.2.2.1, X.2.2.2.2.1, X.2.2.2.2.2.1⟩ (hM H.size) (⟨callB_of n X.2.2.2.2.2.1 (LW_goodC hY.1) rfl (rfl : (rm d).cells = 0) (rfl : (rm d).slots = 0) (X.2.2.2.2.2.1 _ hY.2.1) (X.2.2.2.2.2.1 _ hl0) hY.2.2 hR, X.2.2.2.2.2.1 _ hw⟩) (PreS_of X hP hD hS (V_AA X hD hS)) rfl hn hl.1 rfl (lv_room hst) hd ⟨hcs.1, hcs.2⟩) hS (fun q _ hq => hAA q hq) hAA (fun u t H1 locs1 ht hvm hpost hB hz1 hk1 hS1 => ?_)
  subst hpost
  obtain ⟨hP1, hD1⟩ := hB
  rw [ht] at hP1
  exact kk H1 locs1 ls hP1 (hD1.weaken (fun _ q _ hq => hAA q.1 hq)) hS1 hl
theorem V_callVi (X : XC E own cc nL ret A p s m args meth c) {d maxL index n : Nat} {y : MethodName} {bytes : ByteArray} {ret' : Option FieldType} {host : String} {As : List Value} {r : Int32} {h1 : Hp} {stk : List Value} {b0 ci : Nat} {fs : List Value} {q0 : vw_C} (he : (wld E h)[b0]? = some (eA E b0, .inr (ci, fs))) (hc : vwCl[ci]? = some q0) (hC : q0.1 = y.cls) (hM : SMi l E d y bytes maxL ret' (.ref (eA E b0) :: As) h r h1) (hY : YS y bytes maxL ret' n) (hw : Cond.instanceMethod y ∈ LW ∧ Cond.selects y.cls y y ∈ LW) (hl0 : Cond.methodLink own index y ∈ LW) (hn : As.length = n) (hstk : As.reverse ++ .ref (eA E b0) :: st = stk) (hR : d + 1 ≤ R.frames ∧ 8 + (maxL + 11) + 40 * d ≤ R.locals) (hcs : cells ≤ R.cells ∧ slots ≤ R.slots) (hst : (st.map fun v => v.category).sum ≤ 8) (hd : decode cc pc = .ok (.invokevirtual index, 3)) (kk : V E nL A p l e R s m args below meth c cells slots Q (pc + 3) lv (.int r :: st) h1) : V E nL A p l e R s m args below meth c cells slots Q pc lv stk h := fun H locs ls hP hD hS hl => by
  subst hstk
  have hAA := V_AA X hD hS
  refine va_calli (va_runV (C := y.cls) (As := As) (rest := st) (mc := 0) (ms := 0) ⟨X.1, X.2.1, X.2.2.2.1, X.2.2.2.2.1, X.2.2.2.2.2.1⟩ (hM H.size) (⟨callB_of n X.2.2.2.2.2.1 (LW_goodC hY.1) rfl (rfl : (rm d).cells = 0) (rfl : (rm d).slots = 0) (X.2.2.2.2.2.1 _ hY.2.1) (X.2.2.2.2.2.1 _ hl0) hY.2.2 hR, X.2.2.2.2.2.1 _ hw.1, X.2.2.2.2.2.1 _ hw.2⟩) (⟨(PreS_of X hP hD hS (V_AA X hD hS)).1, by obtain ⟨cell, z1, z2, z3⟩ := va_recv X.2.2.2.2.2.2.2.1.1 hP hc he; exact ⟨cell, z1, z2, by rw [← hC]; exact z3⟩, (PreS_of (As := .ref (eA E b0) :: As) X hP hD hS (V_AA X hD hS)).2⟩) rfl hn hl.1 rfl (lv_room hst) hd ⟨hcs.1, hcs.2⟩) hS (fun q _ hq => hAA q hq) hAA (fun r1 u t H1 locs1 ht hvm hpost hB hz1 hk1 hS1 => ?_)
  obtain ⟨rfl, rfl⟩ := hpost
  obtain ⟨hP1, hD1⟩ := hB
  rw [ht] at hP1
  exact kk H1 locs1 ls hP1 (hD1.weaken (fun _ q _ hq => hAA q.1 hq)) hS1 hl
theorem V_callVv (X : XC E own cc nL ret A p s m args meth c) {d maxL index n : Nat} {y : MethodName} {bytes : ByteArray} {ret' : Option FieldType} {host : String} {As : List Value} {r : Int32} {h1 : Hp} {stk : List Value} {b0 ci : Nat} {fs : List Value} {q0 : vw_C} (he : (wld E h)[b0]? = some (eA E b0, .inr (ci, fs))) (hc : vwCl[ci]? = some q0) (hC : q0.1 = y.cls) (hM : SMv l E d y bytes maxL (.ref (eA E b0) :: As) h h1) (hY : YS y bytes maxL none n) (hw : Cond.instanceMethod y ∈ LW ∧ Cond.selects y.cls y y ∈ LW) (hl0 : Cond.methodLink own index y ∈ LW) (hn : As.length = n) (hstk : As.reverse ++ .ref (eA E b0) :: st = stk) (hR : d + 1 ≤ R.frames ∧ 8 + (maxL + 11) + 40 * d ≤ R.locals) (hcs : cells ≤ R.cells ∧ slots ≤ R.slots) (hst : (st.map fun v => v.category).sum ≤ 8) (hd : decode cc pc = .ok (.invokevirtual index, 3)) (kk : V E nL A p l e R s m args below meth c cells slots Q (pc + 3) lv st h1) : V E nL A p l e R s m args below meth c cells slots Q pc lv stk h := fun H locs ls hP hD hS hl => by
  subst hstk
  have hAA := V_AA X hD hS
  refine va_callv (va_runV (C := y.cls) (As := As) (rest := st) (mc := 0) (ms := 0) ⟨X.1, X.2.1, X.2.2.2.1, X.2.2.2.2.1, X.2.2.2.2.2.1⟩ (hM H.size) (⟨callB_of n X.2.2.2.2.2.1 (LW_goodC hY.1) rfl (rfl : (rm d).cells = 0) (rfl : (rm d).slots = 0) (X.2.2.2.2.2.1 _ hY.2.1) (X.2.2.2.2.2.1 _ hl0) hY.2.2 hR, X.2.2.2.2.2.1 _ hw.1, X.2.2.2.2.2.1 _ hw.2⟩) (⟨(PreS_of X hP hD hS (V_AA X hD hS)).1, by obtain ⟨cell, z1, z2, z3⟩ := va_recv X.2.2.2.2.2.2.2.1.1 hP hc he; exact ⟨cell, z1, z2, by rw [← hC]; exact z3⟩, (PreS_of (As := .ref (eA E b0) :: As) X hP hD hS (V_AA X hD hS)).2⟩) rfl hn hl.1 rfl (lv_room hst) hd ⟨hcs.1, hcs.2⟩) hS (fun q _ hq => hAA q hq) hAA (fun u t H1 locs1 ht hvm hpost hB hz1 hk1 hS1 => ?_)
  subst hpost
  obtain ⟨hP1, hD1⟩ := hB
  rw [ht] at hP1
  exact kk H1 locs1 ls hP1 (hD1.weaken (fun _ q _ hq => hAA q.1 hq)) hS1 hl
theorem V_callSNi (X : XC E own cc nL ret A p s m args meth c) {d maxL index n : Nat} {y : MethodName} {bytes : ByteArray} {ret' : Option FieldType} {host : String} {As : List Value} {r : Int32} {h1 : Hp} {stk : List Value} (hM : SMi l E d y bytes maxL ret' As h r h1) (hY : YS y bytes maxL ret' n) (hw : Cond.static y ∈ LW) (hl0 : Cond.methodLinkNest own index y host ∈ nestL) (hn : As.length = n) (hstk : As.reverse ++ st = stk) (hR : d + 1 ≤ R.frames ∧ 8 + (maxL + 11) + 40 * d ≤ R.locals) (hcs : cells ≤ R.cells ∧ slots ≤ R.slots) (hst : (st.map fun v => v.category).sum ≤ 8) (hd : decode cc pc = .ok (.invokestatic index, 3)) (kk : V E nL A p l e R s m args below meth c cells slots Q (pc + 3) lv (.int r :: st) h1) : V E nL A p l e R s m args below meth c cells slots Q pc lv stk h := fun H locs ls hP hD hS hl => by
  subst hstk
  have hAA := V_AA X hD hS
  refine va_calli (va_runSN (As := As) (rest := st) (mc := 0) (ms := 0) ⟨X.1, X.2.1, X.2.2.2.1, X.2.2.2.2.1, X.2.2.2.2.2.1⟩ (hM H.size) (⟨va_cnB n X.2.2.2.2.2.1 (LW_goodC hY.1) rfl (rfl : (rm d).cells = 0) (rfl : (rm d).slots = 0) (X.2.2.2.2.2.2.2.1.2.1 _ hl0) (X.2.2.2.2.2.1 _ hY.2.1) hY.2.2 hR, X.2.2.2.2.2.1 _ hw, trivial⟩) (PreS_of X hP hD hS (V_AA X hD hS)) rfl hn hl.1 rfl (lv_room hst) hd ⟨hcs.1, hcs.2⟩) hS (fun q _ hq => hAA q hq) hAA (fun r1 u t H1 locs1 ht hvm hpost hB hz1 hk1 hS1 => ?_)
  obtain ⟨rfl, rfl⟩ := hpost
  obtain ⟨hP1, hD1⟩ := hB
  rw [ht] at hP1
  exact kk H1 locs1 ls hP1 (hD1.weaken (fun _ q _ hq => hAA q.1 hq)) hS1 hl
theorem V_callSNv (X : XC E own cc nL ret A p s m args meth c) {d maxL index n : Nat} {y : MethodName} {bytes : ByteArray} {ret' : Option FieldType} {host : String} {As : List Value} {r : Int32} {h1 : Hp} {stk : List Value} (hM : SMv l E d y bytes maxL As h h1) (hY : YS y bytes maxL none n) (hw : Cond.static y ∈ LW) (hl0 : Cond.methodLinkNest own index y host ∈ nestL) (hn : As.length = n) (hstk : As.reverse ++ st = stk) (hR : d + 1 ≤ R.frames ∧ 8 + (maxL + 11) + 40 * d ≤ R.locals) (hcs : cells ≤ R.cells ∧ slots ≤ R.slots) (hst : (st.map fun v => v.category).sum ≤ 8) (hd : decode cc pc = .ok (.invokestatic index, 3)) (kk : V E nL A p l e R s m args below meth c cells slots Q (pc + 3) lv st h1) : V E nL A p l e R s m args below meth c cells slots Q pc lv stk h := fun H locs ls hP hD hS hl => by
  subst hstk
  have hAA := V_AA X hD hS
  refine va_callv (va_runSN (As := As) (rest := st) (mc := 0) (ms := 0) ⟨X.1, X.2.1, X.2.2.2.1, X.2.2.2.2.1, X.2.2.2.2.2.1⟩ (hM H.size) (⟨va_cnB n X.2.2.2.2.2.1 (LW_goodC hY.1) rfl (rfl : (rm d).cells = 0) (rfl : (rm d).slots = 0) (X.2.2.2.2.2.2.2.1.2.1 _ hl0) (X.2.2.2.2.2.1 _ hY.2.1) hY.2.2 hR, X.2.2.2.2.2.1 _ hw, trivial⟩) (PreS_of X hP hD hS (V_AA X hD hS)) rfl hn hl.1 rfl (lv_room hst) hd ⟨hcs.1, hcs.2⟩) hS (fun q _ hq => hAA q hq) hAA (fun u t H1 locs1 ht hvm hpost hB hz1 hk1 hS1 => ?_)
  subst hpost
  obtain ⟨hP1, hD1⟩ := hB
  rw [ht] at hP1
  exact kk H1 locs1 ls hP1 (hD1.weaken (fun _ q _ hq => hAA q.1 hq)) hS1 hl
theorem V_callVNi (X : XC E own cc nL ret A p s m args meth c) {d maxL index n : Nat} {y : MethodName} {bytes : ByteArray} {ret' : Option FieldType} {host : String} {As : List Value} {r : Int32} {h1 : Hp} {stk : List Value} {b0 ci : Nat} {fs : List Value} {q0 : vw_C} (he : (wld E h)[b0]? = some (eA E b0, .inr (ci, fs))) (hc : vwCl[ci]? = some q0) (hC : q0.1 = y.cls) (hM : SMi l E d y bytes maxL ret' (.ref (eA E b0) :: As) h r h1) (hY : YS y bytes maxL ret' n) (hw : Cond.instanceMethod y ∈ LW ∧ Cond.selects y.cls y y ∈ LW) (hl0 : Cond.methodLinkNest own index y host ∈ nestL) (hn : As.length = n) (hstk : As.reverse ++ .ref (eA E b0) :: st = stk) (hR : d + 1 ≤ R.frames ∧ 8 + (maxL + 11) + 40 * d ≤ R.locals) (hcs : cells ≤ R.cells ∧ slots ≤ R.slots) (hst : (st.map fun v => v.category).sum ≤ 8) (hd : decode cc pc = .ok (.invokevirtual index, 3)) (kk : V E nL A p l e R s m args below meth c cells slots Q (pc + 3) lv (.int r :: st) h1) : V E nL A p l e R s m args below meth c cells slots Q pc lv stk h := fun H locs ls hP hD hS hl => by
  subst hstk
  have hAA := V_AA X hD hS
  refine va_calli (va_runVN (C := y.cls) (As := As) (rest := st) (mc := 0) (ms := 0) ⟨X.1, X.2.1, X.2.2.2.1, X.2.2.2.2.1, X.2.2.2.2.2.1⟩ (hM H.size) (⟨va_cnB n X.2.2.2.2.2.1 (LW_goodC hY.1) rfl (rfl : (rm d).cells = 0) (rfl : (rm d).slots = 0) (X.2.2.2.2.2.2.2.1.2.1 _ hl0) (X.2.2.2.2.2.1 _ hY.2.1) hY.2.2 hR, X.2.2.2.2.2.1 _ hw.1, X.2.2.2.2.2.1 _ hw.2⟩) (⟨(PreS_of X hP hD hS (V_AA X hD hS)).1, by obtain ⟨cell, z1, z2, z3⟩ := va_recv X.2.2.2.2.2.2.2.1.1 hP hc he; exact ⟨cell, z1, z2, by rw [← hC]; exact z3⟩, (PreS_of (As := .ref (eA E b0) :: As) X hP hD hS (V_AA X hD hS)).2⟩) rfl hn hl.1 rfl (lv_room hst) hd ⟨hcs.1, hcs.2⟩) hS (fun q _ hq => hAA q hq) hAA (fun r1 u t H1 locs1 ht hvm hpost hB hz1 hk1 hS1 => ?_)
  obtain ⟨rfl, rfl⟩ := hpost
  obtain ⟨hP1, hD1⟩ := hB
  rw [ht] at hP1
  exact kk H1 locs1 ls hP1 (hD1.weaken (fun _ q _ hq => hAA q.1 hq)) hS1 hl
theorem V_callVNv (X : XC E own cc nL ret A p s m args meth c) {d maxL index n : Nat} {y : MethodName} {bytes : ByteArray} {ret' : Option FieldType} {host : String} {As : List Value} {r : Int32} {h1 : Hp} {stk : List Value} {b0 ci : Nat} {fs : List Value} {q0 : vw_C} (he : (wld E h)[b0]? = some (eA E b0, .inr (ci, fs))) (hc : vwCl[ci]? = some q0) (hC : q0.1 = y.cls) (hM : SMv l E d y bytes maxL (.ref (eA E b0) :: As) h h1) (hY : YS y bytes maxL none n) (hw : Cond.instanceMethod y ∈ LW ∧ Cond.selects y.cls y y ∈ LW) (hl0 : Cond.methodLinkNest own index y host ∈ nestL) (hn : As.length = n) (hstk : As.reverse ++ .ref (eA E b0) :: st = stk) (hR : d + 1 ≤ R.frames ∧ 8 + (maxL + 11) + 40 * d ≤ R.locals) (hcs : cells ≤ R.cells ∧ slots ≤ R.slots) (hst : (st.map fun v => v.category).sum ≤ 8) (hd : decode cc pc = .ok (.invokevirtual index, 3)) (kk : V E nL A p l e R s m args below meth c cells slots Q (pc + 3) lv st h1) : V E nL A p l e R s m args below meth c cells slots Q pc lv stk h := fun H locs ls hP hD hS hl => by
  subst hstk
  have hAA := V_AA X hD hS
  refine va_callv (va_runVN (C := y.cls) (As := As) (rest := st) (mc := 0) (ms := 0) ⟨X.1, X.2.1, X.2.2.2.1, X.2.2.2.2.1, X.2.2.2.2.2.1⟩ (hM H.size) (⟨va_cnB n X.2.2.2.2.2.1 (LW_goodC hY.1) rfl (rfl : (rm d).cells = 0) (rfl : (rm d).slots = 0) (X.2.2.2.2.2.2.2.1.2.1 _ hl0) (X.2.2.2.2.2.1 _ hY.2.1) hY.2.2 hR, X.2.2.2.2.2.1 _ hw.1, X.2.2.2.2.2.1 _ hw.2⟩) (⟨(PreS_of X hP hD hS (V_AA X hD hS)).1, by obtain ⟨cell, z1, z2, z3⟩ := va_recv X.2.2.2.2.2.2.2.1.1 hP hc he; exact ⟨cell, z1, z2, by rw [← hC]; exact z3⟩, (PreS_of (As := .ref (eA E b0) :: As) X hP hD hS (V_AA X hD hS)).2⟩) rfl hn hl.1 rfl (lv_room hst) hd ⟨hcs.1, hcs.2⟩) hS (fun q _ hq => hAA q hq) hAA (fun u t H1 locs1 ht hvm hpost hB hz1 hk1 hS1 => ?_)
  subst hpost
  obtain ⟨hP1, hD1⟩ := hB
  rw [ht] at hP1
  exact kk H1 locs1 ls hP1 (hD1.weaken (fun _ q _ hq => hAA q.1 hq)) hS1 hl
theorem V_iret (X : XC E own cc nL ret A p s m args meth c) {v r : Int32} (hret : ret = some .int) (hf0 : (some (v, h) : Re) = some (r, h')) (hd : decode cc pc = .ok (.ireturn, 1)) : V E nL A p l e R s m args below meth c cells slots (MQ below (Qi E A r h') args s cells slots A) pc lv [.int v] h := fun H locs ls hP hD hS hl => by
  cases hf0
  exact W.iret X.1 X.2.1 (X.2.2.1.trans hret) (fun t ht hW => ⟨⟨v, h, rfl, ⟨rfl, rfl⟩, by rw [ht]; exact hP, hD⟩, hS.F ht⟩) hS.2.2 hd X.2.2.2.2.2.2.1
theorem V_zret (X : XC E own cc nL ret A p s m args meth c) {v r : Int32} (hret : ret = some .boolean) (hf0 : rz v h = some (r, h')) (hd : decode cc pc = .ok (.ireturn, 1)) : V E nL A p l e R s m args below meth c cells slots (MQ below (Qi E A r h') args s cells slots A) pc lv [.int v] h := fun H locs ls hP hD hS hl => by
  unfold rz at hf0
  by_cases hz : v = 0 ∨ v = 1
  · rw [if_pos hz] at hf0
    cases hf0
    exact W.zret X.1 X.2.1 (X.2.2.1.trans hret) (by rcases hz with rfl | rfl <;> rfl) (fun t ht hW => ⟨⟨v, h, rfl, ⟨rfl, rfl⟩, by rw [ht]; exact hP, hD⟩, hS.F ht⟩) hS.2.2 hd X.2.2.2.2.2.2.1
  · rw [if_neg hz] at hf0
    cases hf0
theorem V_vret (X : XC E own cc nL ret A p s m args meth c) {v r : Int32} (hret : ret = none) (hf0 : (some (v, h) : Re) = some (r, h')) (hd : decode cc pc = .ok (.return_, 1)) : V E nL A p l e R s m args below meth c cells slots (MQ below (Qv E A h') args s cells slots A) pc lv [] h := fun H locs ls hP hD hS hl => by
  cases hf0
  exact W.vret X.1 X.2.1 (X.2.2.1.trans hret) (fun t ht hW => ⟨⟨h, rfl, rfl, by rw [ht]; exact hP, hD⟩, hS.F ht⟩) hS.2.2 hd X.2.2.2.2.2.2.1
end VR
theorem SMi.of {l : Launch} {E : EN} {d : Nat} {y : MethodName} {cc : ByteArray} {nL : Nat} {ret : Option FieldType} {As : List Value} {h h' : Hp} {r : Int32} (hy : plainName y.cls = true) (hn : (lg_sl As).length ≤ nL)
    (body : ∀ (p : Program) (e : Env) (s : State) (m : MethodId) (args : Array Value) (below : List Frame) (meth : Method) (c : Code) (A : Nat → Prop), XC E y.cls cc nL ret A p s m args meth c → V E nL A p l e (rm d) s m args below meth c 0 0 (MQ below (Qi E A r h') args s 0 0 A) 0 (lv_args 0 As) [] h) : SMi l E d y cc nL ret As h r h' := by
  intro sz
  refine Met.ofW (cc := cc) (maxL := nL) (ret := ret) hy rfl ?_
  intro p e s m args below meth c s₁ B hml hv
  obtain ⟨rfl, hsz, hP, hK, hD0⟩ := hv
  have hts := atoms_spec (ws := .code y cc nL ret :: LW) B.pre
  subst hsz
  have hl := lv_entry As hn
  rw [lg_entry_eq]
  exact body p e s m As.toArray below meth c _ ⟨B.exec, B.bytes, B.returns, hml, findClass_of_methodNamed B.named, fun w hw => hts w (List.mem_cons_of_mem _ hw), B.notSynchronized, hK, fun q hq => Or.inr hq⟩ s.heap [] _ hP hD0.self va_S.rf hl
theorem SMv.of {l : Launch} {E : EN} {d : Nat} {y : MethodName} {cc : ByteArray} {nL : Nat} {As : List Value} {h h' : Hp} (hy : plainName y.cls = true) (hn : (lg_sl As).length ≤ nL)
    (body : ∀ (p : Program) (e : Env) (s : State) (m : MethodId) (args : Array Value) (below : List Frame) (meth : Method) (c : Code) (A : Nat → Prop), XC E y.cls cc nL none A p s m args meth c → V E nL A p l e (rm d) s m args below meth c 0 0 (MQ below (Qv E A h') args s 0 0 A) 0 (lv_args 0 As) [] h) : SMv l E d y cc nL As h h' := by
  intro sz
  refine Met.ofW (cc := cc) (maxL := nL) (ret := none) hy rfl ?_
  intro p e s m args below meth c s₁ B hml hv
  obtain ⟨rfl, hsz, hP, hK, hD0⟩ := hv
  have hts := atoms_spec (ws := .code y cc nL none :: LW) B.pre
  subst hsz
  have hl := lv_entry As hn
  rw [lg_entry_eq]
  exact body p e s m As.toArray below meth c _ ⟨B.exec, B.bytes, B.returns, hml, findClass_of_methodNamed B.named, fun w hw => hts w (List.mem_cons_of_mem _ hw), B.notSynchronized, hK, fun q hq => Or.inr hq⟩ s.heap [] _ hP hD0.self va_S.rf hl
end
